theorem vi_01 : vp_in 0 1 := by unfold vp_in; decide
theorem kw_L_movement : Cond.codeWith y_L_movement c_L_movement 9 (some .int) [(0, 18, 21, 13), (0, 18, 25, 15)] ∈ tw_L := tw_in 79 (by decide +kernel) (by decide +kernel)
set_option maxHeartbeats 4000000 in
set_option maxRecDepth 100000 in
theorem t_L_movement (l : Launch) (D : va_G) (cM cG cI cJ : ClassId) (o am ag : Nat) (pm pg : Nat → Nat) (off : Int32) (nm ng : Nat) (now : Int32) (F : Nat → Nat → Int32) (R : Nat → Int32) (q : Nat) (f : Nat → Int64) (sz : Nat) (a : Int32) (b : Int32) (d9 : Int32) (s9 : Int32) (n9 : Int32) (v9 : Int32) (hl0 : l.stackTraces = false) (t9 : Nat) (hI : iv_S t9 (off, nm, ng, now, F, R)) : Met l y_L_movement (Cond.codeWith y_L_movement c_L_movement 9 (some .int) [(0, 18, 21, 13), (0, 18, 25, 15)] :: tw_L) ({ frames := 7, cells := 2, slots := 26, locals := 109 } : Room) (mu_P D ((q, .inl (cJ, 1, .inr (.inl f))) :: ws_C cM cG o am ag pm pg (off, nm, ng, now, F, R)) sz (fun U H => sx_P (va_A ((q, .inl (cJ, 1, .inr (.inl f))) :: ws_C cM cG o am ag pm pg (off, nm, ng, now, F, R)) sz) U H ∧ sa_P (va_A ((q, .inl (cJ, 1, .inr (.inl f))) :: ws_C cM cG o am ag pm pg (off, nm, ng, now, F, R)) sz) U H) (yt_P D cM cG cI cJ) [.ref o, .int a, .int b, .int d9, .int s9, .int n9, .int v9, .ref q]) (va_Qi (fun (r : Int32) (u : ((Nat → Nat) × (Nat → Nat)) × (Nat → Int64)) => r = (sp_mv (off, nm, ng, now, F, R) a b d9 s9 n9 v9).1 ∧ ((sp_mv (off, nm, ng, now, F, R) a b d9 s9 n9 v9).1 = 0 → u.2 0 = ((sp_mv (off, nm, ng, now, F, R) a b d9 s9 n9 v9).2.1).toInt64)) (mu_B D ((q, .inl (cJ, 1, .inr (.inl f))) :: ws_C cM cG o am ag pm pg (off, nm, ng, now, F, R)) sz (fun u => (q, .inl (cJ, 1, .inr (.inl u.2))) :: ws_C cM cG o am ag u.1.1 u.1.2 (sp_mv (off, nm, ng, now, F, R) a b d9 s9 n9 v9).2.2)) (va_A ((q, .inl (cJ, 1, .inr (.inl f))) :: ws_C cM cG o am ag pm pg (off, nm, ng, now, F, R)) sz)) 2 26 (va_A ((q, .inl (cJ, 1, .inr (.inl f))) :: ws_C cM cG o am ag pm pg (off, nm, ng, now, F, R)) sz) := by
  refine va_MetW (cc := c_L_movement) (maxL := 9) (ret := (some .int)) (hh := [(0, 18, 21, 13), (0, 18, 25, 15)]) (by decide) rfl ?_
  intro p e s m args below meth c s₁ B hml hv
  obtain ⟨rfl, hsz, hP, hD0, hX, hY⟩ := hv
  have hx := B.exec
  have hb := B.bytes
  have hr := B.returns
  have htw : ∀ w ∈ tw_L, w.before _ s = true := fun w hw => atoms_spec (ws := (Cond.codeWith y_L_movement c_L_movement 9 (some .int) [(0, 18, 21, 13), (0, 18, 25, 15)] :: tw_L)) B.pre w (List.mem_cons_of_mem _ hw)
  have htab := vx_table (x := y_L_movement) (hh := [(0, 18, 21, 13), (0, 18, 25, 15)]) B (htw _ kw_L_movement)
  have hown : s.vm.findClass R_L = some m.cls := findClass_of_methodNamed B.named
  have hlocks := B.notSynchronized
  have hC : CallFix p m c c_L_movement 9 s _ tw_L R_L := ⟨hx, hb, hml, hown, htw⟩
  have hK := hY.1
  have hl := lv_entry ([.ref o, .int a, .int b, .int d9, .int s9, .int n9, .int v9, .ref q]) (n := 9) (Nat.le_of_ble_eq_true rfl)
  rw [lg_entry_eq]
  generalize (lg_sl ([.ref o, .int a, .int b, .int d9, .int s9, .int n9, .int v9, .ref q]) ++ List.replicate (9 - (lg_sl ([.ref o, .int a, .int b, .int d9, .int s9, .int n9, .int v9, .ref q])).length) Slot.unset).toArray = ls at hl ⊢
  have hl : lv_has ls 9 [(0, .ref o), (1, .int a), (2, .int b), (3, .int d9), (4, .int s9), (5, .int n9), (6, .int v9), (7, .ref q)] := hl
  subst hsz
  obtain ⟨A, hAe⟩ : ∃ A : Nat → Prop, A = va_A ((q, .inl (cJ, 1, .inr (.inl f))) :: ws_C cM cG o am ag pm pg (off, nm, ng, now, F, R)) s.heap.size := ⟨_, rfl⟩
  have hD : va_D A ((q, .inl (cJ, 1, .inr (.inl f))) :: ws_C cM cG o am ag pm pg (off, nm, ng, now, F, R)) := by rw [hAe]; exact hD0.self
  have hA : ∀ q : Nat, s.heap.size ≤ q → A q := fun q h => by rw [hAe]; exact Or.inr h
  have hS : va_S A s.heap s.heap [] := va_S.rf
  have hXs : sx_P A s s.heap := by rw [hAe]; exact hX.1
  have hXa : sa_P A s s.heap := by rw [hAe]; exact hX.2
  refine lv_aload hx hb d_L_movement_0 (lv_at hl 7 rfl) ?_
  refine lv_iconst (v := 0) hx hb d_L_movement_2 (by decide) ?_
  refine lv_aload_n hx hb d_L_movement_3 rfl (lv_at hl 0 rfl) ?_
  refine lv_iload_n hx hb d_L_movement_4 rfl (lv_at hl 1 rfl) ?_
  refine lv_iload_n hx hb d_L_movement_5 rfl (lv_at hl 2 rfl) ?_
  refine lv_iload_n hx hb d_L_movement_6 rfl (lv_at hl 3 rfl) ?_
  refine lv_iload hx hb d_L_movement_7 (lv_at hl 4 rfl) ?_
  refine lv_iload hx hb d_L_movement_9 (lv_at hl 5 rfl) ?_
  refine lv_iload hx hb d_L_movement_11 (lv_at hl 6 rfl) ?_
  have hPs := wk_sw (wa := [(q, .inl (cJ, 1, .inr (.inl f)))]) hP
  have hDs := wk_swD (wa := [(q, .inl (cJ, 1, .inr (.inl f)))]) hD
  have hF9 := wk_F (wk_LD hDs) hS hA
  refine cx_Vi (n := 6) [.int a, .int b, .int d9, .int s9, .int n9, .int v9] hC (t_T_movement l D cM cG cI cJ o am ag pm pg off nm ng now F R _ a b d9 s9 n9 v9 hl0 t9 hI) ⟨kc_T_movement, kn_T, k_L_7, ki_T_movement, kv_T_movement⟩ (by decide +kernel) ⟨rfl, rfl, Nat.le_of_ble_eq_true rfl, Nat.le_of_ble_eq_true rfl⟩ sx_X (yt_Y D cM cG cI cJ) hY (sx_k hXs hS hF9) (va_recv hK (wk_L hPs) (ci := 0) (q0 := 0) rfl rfl) (wk_L hPs) (wk_T (wk_LD hDs)) hS hF9 rfl hl.1 rfl (Nat.le_of_ble_eq_true rfl) d_L_movement_13 ⟨Nat.le_of_ble_eq_true rfl, Nat.le_of_ble_eq_true rfl⟩ (fun E ce q9 t H1 locs1 hE hk1 hS1 hc1 hc2 hc3 => ?_) (fun r1 u H1 locs1 hw9 hP1 hD1 hz9 hk9 hS1 => ?_)
  · rcases hE with ⟨rfl, hE1⟩ | ⟨rfl, hE1⟩
    · clear hPs hDs hF9
      have e_S : (sp_mv (off, nm, ng, now, F, R) a b d9 s9 n9 v9).2.2 = (off, nm, ng, now, F, R) := th_mv (by rw [hE1]; decide)
      refine vx_catch (own := R_L) (name := "java/lang/IllegalArgumentException") hown [] ⟨0, 18, 21, 13⟩ [⟨0, 18, 25, 15⟩] htab (fun z hz => nomatch hz) (by decide) (by decide) (htw _ k_L_13) (nx_use hY _ (by decide)) hc1 hc2 hc3 ?_
      have hP := va_P.kept hP (fun k x hx => hk1 _ (vx_lt hP hx))
      have hS := hS1
      clear hS1
      refine lv_astore (lv' := [(8, .ref q9), (0, .ref o), (1, .int a), (2, .int b), (3, .int d9), (4, .int s9), (5, .int n9), (6, .int v9), (7, .ref q)]) hx hb d_L_movement_21 hl (by decide) rfl (fun ls hl => ?_)
      refine lv_iconst (v := 1) hx hb d_L_movement_23 (by decide) ?_
      subst hAe
      refine W.widen (k := 2) (n := 26) (by decide) (by decide) ?_
      exact W.iret (v := 1) hx hb hr (fun t ht hW => ⟨⟨_, ((pm, pg), f), rfl, ⟨hE1.symm, fun z => absurd (hE1.symm.trans z) (by decide)⟩, by rw [ht, e_S]; exact hP, by rw [e_S]; exact hD⟩, hS.F ht⟩) hS.2.2 d_L_movement_24
    · clear hPs hDs hF9
      have e_S : (sp_mv (off, nm, ng, now, F, R) a b d9 s9 n9 v9).2.2 = (off, nm, ng, now, F, R) := th_mv (by rw [hE1]; decide)
      refine vx_catch (own := R_L) (name := "java/lang/IllegalStateException") hown [⟨0, 18, 21, 13⟩] ⟨0, 18, 25, 15⟩ [] htab (fun z hz => by rw [List.mem_singleton.mp hz]; exact Or.inr ⟨by decide, "java/lang/IllegalArgumentException", htw _ k_L_13, hY.2.2.2.2.2.2.2⟩) (by decide) (by decide) (htw _ k_L_15) (nx_use hY _ (by decide)) hc1 hc2 hc3 ?_
      have hP := va_P.kept hP (fun k x hx => hk1 _ (vx_lt hP hx))
      have hS := hS1
      clear hS1
      refine lv_astore (lv' := [(8, .ref q9), (0, .ref o), (1, .int a), (2, .int b), (3, .int d9), (4, .int s9), (5, .int n9), (6, .int v9), (7, .ref q)]) hx hb d_L_movement_25 hl (by decide) rfl (fun ls hl => ?_)
      refine lv_iconst (v := 2) hx hb d_L_movement_27 (by decide) ?_
      subst hAe
      refine W.widen (k := 2) (n := 26) (by decide) (by decide) ?_
      exact W.iret (v := 2) hx hb hr (fun t ht hW => ⟨⟨_, ((pm, pg), f), rfl, ⟨hE1.symm, fun z => absurd (hE1.symm.trans z) (by decide)⟩, by rw [ht, e_S]; exact hP, by rw [e_S]; exact hD⟩, hS.F ht⟩) hS.2.2 d_L_movement_28
  · obtain ⟨hP2, hD2⟩ := jn_L hPs hDs hk9 hF9 hP1 hD1
    have hP := wk_sw hP2
    have hD := wk_swD hD2
    have hS := hS1
    clear hS1 hP2 hD2 hP1 hD1
    refine lv_i2l (v := r1.toInt64) hx hb d_L_movement_16 rfl ?_
    refine va_last hx hb hK hP hD hS 0 3 rfl rfl vi_01 d_L_movement_17 (fun H locs hP hD hS => ?_)
    refine lv_goto (tgt := 29) hx hb d_L_movement_18 (by decide) ?_
    refine lv_iconst (v := 0) hx hb d_L_movement_29 (by decide) ?_
    subst hAe
    refine W.widen (k := 2) (n := 26) (by decide) (by decide) ?_
    exact W.iret (v := 0) hx hb hr (fun t ht hW => ⟨⟨_, (u, (vp_updL f (0 : Int32).toNatClampNeg r1.toInt64)), rfl, ⟨hw9.1.symm, fun _ => by rw [← hw9.2]; exact lg_u0 f _⟩, by rw [ht]; exact hP, hD⟩, hS.F ht⟩) hS.2.2 d_L_movement_30
theorem kw_L_arrive : Cond.codeWith y_L_arrive c_L_arrive 6 (some .int) [(0, 12, 15, 13)] ∈ tw_L := tw_in 302 (by decide +kernel) (by decide +kernel)
set_option maxHeartbeats 4000000 in
set_option maxRecDepth 100000 in
theorem t_L_arrive (l : Launch) (D : va_G) (cM cG cI cJ : ClassId) (o am ag : Nat) (pm pg : Nat → Nat) (off : Int32) (nm ng : Nat) (now : Int32) (F : Nat → Nat → Int32) (R : Nat → Int32) (q : Nat) (f : Nat → Int64) (sz : Nat) (x : Int32) (y : Int32) (z : Int32) (hl0 : l.stackTraces = false) (t9 : Nat) (hI : iv_S t9 (off, nm, ng, now, F, R)) : Met l y_L_arrive (Cond.codeWith y_L_arrive c_L_arrive 6 (some .int) [(0, 12, 15, 13)] :: tw_L) ({ frames := 7, cells := 2, slots := 14, locals := 110 } : Room) (mu_P D ((q, .inl (cJ, 1, .inr (.inl f))) :: ws_C cM cG o am ag pm pg (off, nm, ng, now, F, R)) sz (fun U H => sx_P (va_A ((q, .inl (cJ, 1, .inr (.inl f))) :: ws_C cM cG o am ag pm pg (off, nm, ng, now, F, R)) sz) U H ∧ sa_P (va_A ((q, .inl (cJ, 1, .inr (.inl f))) :: ws_C cM cG o am ag pm pg (off, nm, ng, now, F, R)) sz) U H) (yt_P D cM cG cI cJ) [.ref o, .int x, .int y, .int z, .ref q]) (va_Qi (fun (r : Int32) (u : (Nat → Nat) × (Nat → Int64)) => r = (sp_ar (off, nm, ng, now, F, R) x y z).1 ∧ ((sp_ar (off, nm, ng, now, F, R) x y z).1 = 0 → u.2 0 = ((sp_ar (off, nm, ng, now, F, R) x y z).2.1).toInt64)) (mu_B D ((q, .inl (cJ, 1, .inr (.inl f))) :: ws_C cM cG o am ag pm pg (off, nm, ng, now, F, R)) sz (fun u => (q, .inl (cJ, 1, .inr (.inl u.2))) :: ws_C cM cG o am ag pm u.1 (sp_ar (off, nm, ng, now, F, R) x y z).2.2)) (va_A ((q, .inl (cJ, 1, .inr (.inl f))) :: ws_C cM cG o am ag pm pg (off, nm, ng, now, F, R)) sz)) 2 14 (va_A ((q, .inl (cJ, 1, .inr (.inl f))) :: ws_C cM cG o am ag pm pg (off, nm, ng, now, F, R)) sz) := by
  refine va_MetW (cc := c_L_arrive) (maxL := 6) (ret := (some .int)) (hh := [(0, 12, 15, 13)]) (by decide) rfl ?_
  intro p e s m args below meth c s₁ B hml hv
  obtain ⟨rfl, hsz, hP, hD0, hX, hY⟩ := hv
  have hx := B.exec
  have hb := B.bytes
  have hr := B.returns
  have htw : ∀ w ∈ tw_L, w.before _ s = true := fun w hw => atoms_spec (ws := (Cond.codeWith y_L_arrive c_L_arrive 6 (some .int) [(0, 12, 15, 13)] :: tw_L)) B.pre w (List.mem_cons_of_mem _ hw)
  have htab := vx_table (x := y_L_arrive) (hh := [(0, 12, 15, 13)]) B (htw _ kw_L_arrive)
  have hown : s.vm.findClass R_L = some m.cls := findClass_of_methodNamed B.named
  have hlocks := B.notSynchronized
  have hC : CallFix p m c c_L_arrive 6 s _ tw_L R_L := ⟨hx, hb, hml, hown, htw⟩
  have hK := hY.1
  have hl := lv_entry ([.ref o, .int x, .int y, .int z, .ref q]) (n := 6) (Nat.le_of_ble_eq_true rfl)
  rw [lg_entry_eq]
  generalize (lg_sl ([.ref o, .int x, .int y, .int z, .ref q]) ++ List.replicate (6 - (lg_sl ([.ref o, .int x, .int y, .int z, .ref q])).length) Slot.unset).toArray = ls at hl ⊢
  have hl : lv_has ls 6 [(0, .ref o), (1, .int x), (2, .int y), (3, .int z), (4, .ref q)] := hl
  subst hsz
  obtain ⟨A, hAe⟩ : ∃ A : Nat → Prop, A = va_A ((q, .inl (cJ, 1, .inr (.inl f))) :: ws_C cM cG o am ag pm pg (off, nm, ng, now, F, R)) s.heap.size := ⟨_, rfl⟩
  have hD : va_D A ((q, .inl (cJ, 1, .inr (.inl f))) :: ws_C cM cG o am ag pm pg (off, nm, ng, now, F, R)) := by rw [hAe]; exact hD0.self
  have hA : ∀ q : Nat, s.heap.size ≤ q → A q := fun q h => by rw [hAe]; exact Or.inr h
  have hS : va_S A s.heap s.heap [] := va_S.rf
  have hXs : sx_P A s s.heap := by rw [hAe]; exact hX.1
  have hXa : sa_P A s s.heap := by rw [hAe]; exact hX.2
  refine lv_aload hx hb d_L_arrive_0 (lv_at hl 4 rfl) ?_
  refine lv_iconst (v := 0) hx hb d_L_arrive_2 (by decide) ?_
  refine lv_aload_n hx hb d_L_arrive_3 rfl (lv_at hl 0 rfl) ?_
  refine lv_iload_n hx hb d_L_arrive_4 rfl (lv_at hl 1 rfl) ?_
  refine lv_iload_n hx hb d_L_arrive_5 rfl (lv_at hl 2 rfl) ?_
  refine lv_iload_n hx hb d_L_arrive_6 rfl (lv_at hl 3 rfl) ?_
  have hPs := wk_sw (wa := [(q, .inl (cJ, 1, .inr (.inl f)))]) hP
  have hDs := wk_swD (wa := [(q, .inl (cJ, 1, .inr (.inl f)))]) hD
  have hF9 := wk_F (wk_LD hDs) hS hA
  refine cx_Vi (n := 3) [.int x, .int y, .int z] hC (t_T_arrive l D cM cG cI cJ o am ag pm pg off nm ng now F R _ x y z hl0 t9 hI) ⟨kc_T_arrive, kn_T, k_L_17, ki_T_arrive, kv_T_arrive⟩ (by decide +kernel) ⟨rfl, rfl, Nat.le_of_ble_eq_true rfl, Nat.le_of_ble_eq_true rfl⟩ sx_X (yt_Y D cM cG cI cJ) hY (sx_k hXs hS hF9) (va_recv hK (wk_L hPs) (ci := 0) (q0 := 0) rfl rfl) (wk_L hPs) (wk_T (wk_LD hDs)) hS hF9 rfl hl.1 rfl (Nat.le_of_ble_eq_true rfl) d_L_arrive_7 ⟨Nat.le_of_ble_eq_true rfl, Nat.le_of_ble_eq_true rfl⟩ (fun E ce q9 t H1 locs1 hE hk1 hS1 hc1 hc2 hc3 => ?_) (fun r1 u H1 locs1 hw9 hP1 hD1 hz9 hk9 hS1 => ?_)
  · obtain ⟨rfl, hE1⟩ := hE
    clear hPs hDs hF9
    have e_S : (sp_ar (off, nm, ng, now, F, R) x y z).2.2 = (off, nm, ng, now, F, R) := th_ar (by rw [hE1]; decide)
    refine vx_catch (own := R_L) (name := "java/lang/IllegalArgumentException") hown [] ⟨0, 12, 15, 13⟩ [] htab (fun z hz => nomatch hz) (by decide) (by decide) (htw _ k_L_13) (nx_use hY _ (by decide)) hc1 hc2 hc3 ?_
    have hP := va_P.kept hP (fun k x hx => hk1 _ (vx_lt hP hx))
    have hS := hS1
    clear hS1
    refine lv_astore (lv' := [(5, .ref q9), (0, .ref o), (1, .int x), (2, .int y), (3, .int z), (4, .ref q)]) hx hb d_L_arrive_15 hl (by decide) rfl (fun ls hl => ?_)
    refine lv_iconst (v := 1) hx hb d_L_arrive_17 (by decide) ?_
    subst hAe
    refine W.widen (k := 2) (n := 14) (by decide) (by decide) ?_
    exact W.iret (v := 1) hx hb hr (fun t ht hW => ⟨⟨_, (pg, f), rfl, ⟨hE1.symm, fun z => absurd (hE1.symm.trans z) (by decide)⟩, by rw [ht, e_S]; exact hP, by rw [e_S]; exact hD⟩, hS.F ht⟩) hS.2.2 d_L_arrive_18
  · obtain ⟨hP2, hD2⟩ := jn_L hPs hDs hk9 hF9 hP1 hD1
    have hP := wk_sw hP2
    have hD := wk_swD hD2
    have hS := hS1
    clear hS1 hP2 hD2 hP1 hD1
    refine lv_i2l (v := r1.toInt64) hx hb d_L_arrive_10 rfl ?_
    refine va_last hx hb hK hP hD hS 0 3 rfl rfl vi_01 d_L_arrive_11 (fun H locs hP hD hS => ?_)
    refine lv_goto (tgt := 19) hx hb d_L_arrive_12 (by decide) ?_
    refine lv_iconst (v := 0) hx hb d_L_arrive_19 (by decide) ?_
    subst hAe
    refine W.widen (k := 2) (n := 14) (by decide) (by decide) ?_
    exact W.iret (v := 0) hx hb hr (fun t ht hW => ⟨⟨_, (u, (vp_updL f (0 : Int32).toNatClampNeg r1.toInt64)), rfl, ⟨hw9.1.symm, fun _ => by rw [← hw9.2]; exact lg_u0 f _⟩, by rw [ht]; exact hP, hD⟩, hS.F ht⟩) hS.2.2 d_L_arrive_20
theorem kw_L_control : Cond.codeWith y_L_control c_L_control 5 (some .int) [(0, 10, 13, 13)] ∈ tw_L := tw_in 323 (by decide +kernel) (by decide +kernel)
set_option maxHeartbeats 4000000 in
set_option maxRecDepth 100000 in
theorem t_L_control (l : Launch) (D : va_G) (cM cG cI cJ : ClassId) (o am ag : Nat) (pm pg : Nat → Nat) (off : Int32) (nm ng : Nat) (now : Int32) (F : Nat → Nat → Int32) (R : Nat → Int32) (q : Nat) (f : Nat → Int64) (sz : Nat) (x : Int32) (y : Int32) (hl0 : l.stackTraces = false) (t9 : Nat) (hI : iv_S t9 (off, nm, ng, now, F, R)) : Met l y_L_control (Cond.codeWith y_L_control c_L_control 5 (some .int) [(0, 10, 13, 13)] :: tw_L) ({ frames := 7, cells := 1, slots := 7, locals := 109 } : Room) (mu_P D ((q, .inl (cJ, 1, .inr (.inl f))) :: ws_C cM cG o am ag pm pg (off, nm, ng, now, F, R)) sz (fun U H => sx_P (va_A ((q, .inl (cJ, 1, .inr (.inl f))) :: ws_C cM cG o am ag pm pg (off, nm, ng, now, F, R)) sz) U H ∧ sa_P (va_A ((q, .inl (cJ, 1, .inr (.inl f))) :: ws_C cM cG o am ag pm pg (off, nm, ng, now, F, R)) sz) U H) (yt_P D cM cG cI cJ) [.ref o, .int x, .int y, .ref q]) (va_Qi (fun (r : Int32) (u : (Nat → Nat) × (Nat → Int64)) => r = (sp_co (off, nm, ng, now, F, R) x y).1 ∧ ((sp_co (off, nm, ng, now, F, R) x y).1 = 0 → u.2 0 = ((sp_co (off, nm, ng, now, F, R) x y).2.1).toInt64)) (mu_B D ((q, .inl (cJ, 1, .inr (.inl f))) :: ws_C cM cG o am ag pm pg (off, nm, ng, now, F, R)) sz (fun u => (q, .inl (cJ, 1, .inr (.inl u.2))) :: ws_C cM cG o am ag pm u.1 (sp_co (off, nm, ng, now, F, R) x y).2.2)) (va_A ((q, .inl (cJ, 1, .inr (.inl f))) :: ws_C cM cG o am ag pm pg (off, nm, ng, now, F, R)) sz)) 1 7 (va_A ((q, .inl (cJ, 1, .inr (.inl f))) :: ws_C cM cG o am ag pm pg (off, nm, ng, now, F, R)) sz) := by
  refine va_MetW (cc := c_L_control) (maxL := 5) (ret := (some .int)) (hh := [(0, 10, 13, 13)]) (by decide) rfl ?_
  intro p e s m args below meth c s₁ B hml hv
  obtain ⟨rfl, hsz, hP, hD0, hX, hY⟩ := hv
  have hx := B.exec
  have hb := B.bytes
  have hr := B.returns
  have htw : ∀ w ∈ tw_L, w.before _ s = true := fun w hw => atoms_spec (ws := (Cond.codeWith y_L_control c_L_control 5 (some .int) [(0, 10, 13, 13)] :: tw_L)) B.pre w (List.mem_cons_of_mem _ hw)
  have htab := vx_table (x := y_L_control) (hh := [(0, 10, 13, 13)]) B (htw _ kw_L_control)
  have hown : s.vm.findClass R_L = some m.cls := findClass_of_methodNamed B.named
  have hlocks := B.notSynchronized
  have hC : CallFix p m c c_L_control 5 s _ tw_L R_L := ⟨hx, hb, hml, hown, htw⟩
  have hK := hY.1
  have hl := lv_entry ([.ref o, .int x, .int y, .ref q]) (n := 5) (Nat.le_of_ble_eq_true rfl)
  rw [lg_entry_eq]
  generalize (lg_sl ([.ref o, .int x, .int y, .ref q]) ++ List.replicate (5 - (lg_sl ([.ref o, .int x, .int y, .ref q])).length) Slot.unset).toArray = ls at hl ⊢
  have hl : lv_has ls 5 [(0, .ref o), (1, .int x), (2, .int y), (3, .ref q)] := hl
  subst hsz
  obtain ⟨A, hAe⟩ : ∃ A : Nat → Prop, A = va_A ((q, .inl (cJ, 1, .inr (.inl f))) :: ws_C cM cG o am ag pm pg (off, nm, ng, now, F, R)) s.heap.size := ⟨_, rfl⟩
  have hD : va_D A ((q, .inl (cJ, 1, .inr (.inl f))) :: ws_C cM cG o am ag pm pg (off, nm, ng, now, F, R)) := by rw [hAe]; exact hD0.self
  have hA : ∀ q : Nat, s.heap.size ≤ q → A q := fun q h => by rw [hAe]; exact Or.inr h
  have hS : va_S A s.heap s.heap [] := va_S.rf
  have hXs : sx_P A s s.heap := by rw [hAe]; exact hX.1
  have hXa : sa_P A s s.heap := by rw [hAe]; exact hX.2
  refine lv_aload_n hx hb d_L_control_0 rfl (lv_at hl 3 rfl) ?_
  refine lv_iconst (v := 0) hx hb d_L_control_1 (by decide) ?_
  refine lv_aload_n hx hb d_L_control_2 rfl (lv_at hl 0 rfl) ?_
  refine lv_iload_n hx hb d_L_control_3 rfl (lv_at hl 1 rfl) ?_
  refine lv_iload_n hx hb d_L_control_4 rfl (lv_at hl 2 rfl) ?_
  have hPs := wk_sw (wa := [(q, .inl (cJ, 1, .inr (.inl f)))]) hP
  have hDs := wk_swD (wa := [(q, .inl (cJ, 1, .inr (.inl f)))]) hD
  have hF9 := wk_F (wk_LD hDs) hS hA
  refine cx_Vi (n := 2) [.int x, .int y] hC (t_T_control l D cM cG cI cJ o am ag pm pg off nm ng now F R _ x y hl0 t9 hI) ⟨kc_T_control, kn_T, k_L_21, ki_T_control, kv_T_control⟩ (by decide +kernel) ⟨rfl, rfl, Nat.le_of_ble_eq_true rfl, Nat.le_of_ble_eq_true rfl⟩ sx_X (yt_Y D cM cG cI cJ) hY (sx_k hXs hS hF9) (va_recv hK (wk_L hPs) (ci := 0) (q0 := 0) rfl rfl) (wk_L hPs) (wk_T (wk_LD hDs)) hS hF9 rfl hl.1 rfl (Nat.le_of_ble_eq_true rfl) d_L_control_5 ⟨Nat.le_of_ble_eq_true rfl, Nat.le_of_ble_eq_true rfl⟩ (fun E ce q9 t H1 locs1 hE hk1 hS1 hc1 hc2 hc3 => ?_) (fun r1 u H1 locs1 hw9 hP1 hD1 hz9 hk9 hS1 => ?_)
  · obtain ⟨rfl, hE1⟩ := hE
    clear hPs hDs hF9
    have e_S : (sp_co (off, nm, ng, now, F, R) x y).2.2 = (off, nm, ng, now, F, R) := th_co (by rw [hE1]; decide)
    refine vx_catch (own := R_L) (name := "java/lang/IllegalArgumentException") hown [] ⟨0, 10, 13, 13⟩ [] htab (fun z hz => nomatch hz) (by decide) (by decide) (htw _ k_L_13) (nx_use hY _ (by decide)) hc1 hc2 hc3 ?_
    have hP := va_P.kept hP (fun k x hx => hk1 _ (vx_lt hP hx))
    have hS := hS1
    clear hS1
    refine lv_astore (lv' := [(4, .ref q9), (0, .ref o), (1, .int x), (2, .int y), (3, .ref q)]) hx hb d_L_control_13 hl (by decide) rfl (fun ls hl => ?_)
    refine lv_iconst (v := 1) hx hb d_L_control_15 (by decide) ?_
    subst hAe
    refine W.widen (k := 1) (n := 7) (by decide) (by decide) ?_
    exact W.iret (v := 1) hx hb hr (fun t ht hW => ⟨⟨_, (pg, f), rfl, ⟨hE1.symm, fun z => absurd (hE1.symm.trans z) (by decide)⟩, by rw [ht, e_S]; exact hP, by rw [e_S]; exact hD⟩, hS.F ht⟩) hS.2.2 d_L_control_16
  · obtain ⟨hP2, hD2⟩ := jn_L hPs hDs hk9 hF9 hP1 hD1
    have hP := wk_sw hP2
    have hD := wk_swD hD2
    have hS := hS1
    clear hS1 hP2 hD2 hP1 hD1
    refine lv_i2l (v := r1.toInt64) hx hb d_L_control_8 rfl ?_
    refine va_last hx hb hK hP hD hS 0 3 rfl rfl vi_01 d_L_control_9 (fun H locs hP hD hS => ?_)
    refine lv_goto (tgt := 17) hx hb d_L_control_10 (by decide) ?_
    refine lv_iconst (v := 0) hx hb d_L_control_17 (by decide) ?_
    subst hAe
    refine W.widen (k := 1) (n := 7) (by decide) (by decide) ?_
    exact W.iret (v := 0) hx hb hr (fun t ht hW => ⟨⟨_, (u, (vp_updL f (0 : Int32).toNatClampNeg r1.toInt64)), rfl, ⟨hw9.1.symm, fun _ => by rw [← hw9.2]; exact lg_u0 f _⟩, by rw [ht]; exact hP, hD⟩, hS.F ht⟩) hS.2.2 d_L_control_18
theorem kw_L_receive : Cond.codeWith y_L_receive c_L_receive 5 (some .int) [(0, 10, 13, 13)] ∈ tw_L := tw_in 339 (by decide +kernel) (by decide +kernel)
set_option maxHeartbeats 4000000 in
set_option maxRecDepth 100000 in
theorem t_L_receive (l : Launch) (D : va_G) (cM cG cI cJ : ClassId) (o am ag : Nat) (pm pg : Nat → Nat) (off : Int32) (nm ng : Nat) (now : Int32) (F : Nat → Nat → Int32) (R : Nat → Int32) (q : Nat) (f : Nat → Int64) (sz : Nat) (y : Int32) (x : Int32) (hl0 : l.stackTraces = false) (t9 : Nat) (hI : iv_S t9 (off, nm, ng, now, F, R)) : Met l y_L_receive (Cond.codeWith y_L_receive c_L_receive 5 (some .int) [(0, 10, 13, 13)] :: tw_L) ({ frames := 7, cells := 1, slots := 7, locals := 154 } : Room) (mu_P D ((q, .inl (cJ, 1, .inr (.inl f))) :: ws_C cM cG o am ag pm pg (off, nm, ng, now, F, R)) sz (fun U H => sx_P (va_A ((q, .inl (cJ, 1, .inr (.inl f))) :: ws_C cM cG o am ag pm pg (off, nm, ng, now, F, R)) sz) U H ∧ sa_P (va_A ((q, .inl (cJ, 1, .inr (.inl f))) :: ws_C cM cG o am ag pm pg (off, nm, ng, now, F, R)) sz) U H) (yt_P D cM cG cI cJ) [.ref o, .int y, .int x, .ref q]) (va_Qi (fun (r : Int32) (u : (Nat → Nat) × (Nat → Int64)) => r = (sp_re (off, nm, ng, now, F, R) y x).1 ∧ ((sp_re (off, nm, ng, now, F, R) y x).1 = 0 → u.2 0 = ((sp_re (off, nm, ng, now, F, R) y x).2.1).toInt64)) (mu_B D ((q, .inl (cJ, 1, .inr (.inl f))) :: ws_C cM cG o am ag pm pg (off, nm, ng, now, F, R)) sz (fun u => (q, .inl (cJ, 1, .inr (.inl u.2))) :: ws_C cM cG o am ag pm u.1 (sp_re (off, nm, ng, now, F, R) y x).2.2)) (va_A ((q, .inl (cJ, 1, .inr (.inl f))) :: ws_C cM cG o am ag pm pg (off, nm, ng, now, F, R)) sz)) 1 7 (va_A ((q, .inl (cJ, 1, .inr (.inl f))) :: ws_C cM cG o am ag pm pg (off, nm, ng, now, F, R)) sz) := by
  refine va_MetW (cc := c_L_receive) (maxL := 5) (ret := (some .int)) (hh := [(0, 10, 13, 13)]) (by decide) rfl ?_
  intro p e s m args below meth c s₁ B hml hv
  obtain ⟨rfl, hsz, hP, hD0, hX, hY⟩ := hv
  have hx := B.exec
  have hb := B.bytes
  have hr := B.returns
  have htw : ∀ w ∈ tw_L, w.before _ s = true := fun w hw => atoms_spec (ws := (Cond.codeWith y_L_receive c_L_receive 5 (some .int) [(0, 10, 13, 13)] :: tw_L)) B.pre w (List.mem_cons_of_mem _ hw)
  have htab := vx_table (x := y_L_receive) (hh := [(0, 10, 13, 13)]) B (htw _ kw_L_receive)
  have hown : s.vm.findClass R_L = some m.cls := findClass_of_methodNamed B.named
  have hlocks := B.notSynchronized
  have hC : CallFix p m c c_L_receive 5 s _ tw_L R_L := ⟨hx, hb, hml, hown, htw⟩
  have hK := hY.1
  have hl := lv_entry ([.ref o, .int y, .int x, .ref q]) (n := 5) (Nat.le_of_ble_eq_true rfl)
  rw [lg_entry_eq]
  generalize (lg_sl ([.ref o, .int y, .int x, .ref q]) ++ List.replicate (5 - (lg_sl ([.ref o, .int y, .int x, .ref q])).length) Slot.unset).toArray = ls at hl ⊢
  have hl : lv_has ls 5 [(0, .ref o), (1, .int y), (2, .int x), (3, .ref q)] := hl
  subst hsz
  obtain ⟨A, hAe⟩ : ∃ A : Nat → Prop, A = va_A ((q, .inl (cJ, 1, .inr (.inl f))) :: ws_C cM cG o am ag pm pg (off, nm, ng, now, F, R)) s.heap.size := ⟨_, rfl⟩
  have hD : va_D A ((q, .inl (cJ, 1, .inr (.inl f))) :: ws_C cM cG o am ag pm pg (off, nm, ng, now, F, R)) := by rw [hAe]; exact hD0.self
  have hA : ∀ q : Nat, s.heap.size ≤ q → A q := fun q h => by rw [hAe]; exact Or.inr h
  have hS : va_S A s.heap s.heap [] := va_S.rf
  have hXs : sx_P A s s.heap := by rw [hAe]; exact hX.1
  have hXa : sa_P A s s.heap := by rw [hAe]; exact hX.2
  refine lv_aload_n hx hb d_L_receive_0 rfl (lv_at hl 3 rfl) ?_
  refine lv_iconst (v := 0) hx hb d_L_receive_1 (by decide) ?_
  refine lv_aload_n hx hb d_L_receive_2 rfl (lv_at hl 0 rfl) ?_
  refine lv_iload_n hx hb d_L_receive_3 rfl (lv_at hl 1 rfl) ?_
  refine lv_iload_n hx hb d_L_receive_4 rfl (lv_at hl 2 rfl) ?_
  have hPs := wk_sw (wa := [(q, .inl (cJ, 1, .inr (.inl f)))]) hP
  have hDs := wk_swD (wa := [(q, .inl (cJ, 1, .inr (.inl f)))]) hD
  have hF9 := wk_F (wk_LD hDs) hS hA
  refine cx_Vi (n := 2) [.int y, .int x] hC (t_T_receive l D cM cG cI cJ o am ag pm pg off nm ng now F R _ y x hl0 t9 hI) ⟨kc_T_receive, kn_T, k_L_25, ki_T_receive, kv_T_receive⟩ (by decide +kernel) ⟨rfl, rfl, Nat.le_of_ble_eq_true rfl, Nat.le_of_ble_eq_true rfl⟩ sx_X (yt_Y D cM cG cI cJ) hY (sx_k hXs hS hF9) (va_recv hK (wk_L hPs) (ci := 0) (q0 := 0) rfl rfl) (wk_L hPs) (wk_T (wk_LD hDs)) hS hF9 rfl hl.1 rfl (Nat.le_of_ble_eq_true rfl) d_L_receive_5 ⟨Nat.le_of_ble_eq_true rfl, Nat.le_of_ble_eq_true rfl⟩ (fun E ce q9 t H1 locs1 hE hk1 hS1 hc1 hc2 hc3 => ?_) (fun r1 u H1 locs1 hw9 hP1 hD1 hz9 hk9 hS1 => ?_)
  · obtain ⟨rfl, hE1⟩ := hE
    clear hPs hDs hF9
    have e_S : (sp_re (off, nm, ng, now, F, R) y x).2.2 = (off, nm, ng, now, F, R) := th_re (by rw [hE1]; decide)
    refine vx_catch (own := R_L) (name := "java/lang/IllegalArgumentException") hown [] ⟨0, 10, 13, 13⟩ [] htab (fun z hz => nomatch hz) (by decide) (by decide) (htw _ k_L_13) (nx_use hY _ (by decide)) hc1 hc2 hc3 ?_
    have hP := va_P.kept hP (fun k x hx => hk1 _ (vx_lt hP hx))
    have hS := hS1
    clear hS1
    refine lv_astore (lv' := [(4, .ref q9), (0, .ref o), (1, .int y), (2, .int x), (3, .ref q)]) hx hb d_L_receive_13 hl (by decide) rfl (fun ls hl => ?_)
    refine lv_iconst (v := 1) hx hb d_L_receive_15 (by decide) ?_
    subst hAe
    refine W.widen (k := 1) (n := 7) (by decide) (by decide) ?_
    exact W.iret (v := 1) hx hb hr (fun t ht hW => ⟨⟨_, (pg, f), rfl, ⟨hE1.symm, fun z => absurd (hE1.symm.trans z) (by decide)⟩, by rw [ht, e_S]; exact hP, by rw [e_S]; exact hD⟩, hS.F ht⟩) hS.2.2 d_L_receive_16
  · obtain ⟨hP2, hD2⟩ := jn_L hPs hDs hk9 hF9 hP1 hD1
    have hP := wk_sw hP2
    have hD := wk_swD hD2
    have hS := hS1
    clear hS1 hP2 hD2 hP1 hD1
    refine lv_i2l (v := r1.toInt64) hx hb d_L_receive_8 rfl ?_
    refine va_last hx hb hK hP hD hS 0 3 rfl rfl vi_01 d_L_receive_9 (fun H locs hP hD hS => ?_)
    refine lv_goto (tgt := 17) hx hb d_L_receive_10 (by decide) ?_
    refine lv_iconst (v := 0) hx hb d_L_receive_17 (by decide) ?_
    subst hAe
    refine W.widen (k := 1) (n := 7) (by decide) (by decide) ?_
    exact W.iret (v := 0) hx hb hr (fun t ht hW => ⟨⟨_, (u, (vp_updL f (0 : Int32).toNatClampNeg r1.toInt64)), rfl, ⟨hw9.1.symm, fun _ => by rw [← hw9.2]; exact lg_u0 f _⟩, by rw [ht]; exact hP, hD⟩, hS.F ht⟩) hS.2.2 d_L_receive_18
theorem kw_L_tick : Cond.codeWith y_L_tick c_L_tick 4 (some .int) [(0, 9, 12, 13)] ∈ tw_L := tw_in 373 (by decide +kernel) (by decide +kernel)
set_option maxHeartbeats 4000000 in
set_option maxRecDepth 100000 in
theorem t_L_tick (l : Launch) (D : va_G) (cM cG cI cJ : ClassId) (o am ag : Nat) (pm pg : Nat → Nat) (off : Int32) (nm ng : Nat) (now : Int32) (F : Nat → Nat → Int32) (R : Nat → Int32) (q : Nat) (f : Nat → Int64) (sz : Nat) (x : Int32) (hl0 : l.stackTraces = false) (t9 : Nat) (hI : iv_S t9 (off, nm, ng, now, F, R)) : Met l y_L_tick (Cond.codeWith y_L_tick c_L_tick 4 (some .int) [(0, 9, 12, 13)] :: tw_L) ({ frames := 7, cells := 200, slots := 1400, locals := 112 } : Room) (mu_P D ((q, .inl (cJ, 1, .inr (.inl f))) :: ws_C cM cG o am ag pm pg (off, nm, ng, now, F, R)) sz (fun U H => sx_P (va_A ((q, .inl (cJ, 1, .inr (.inl f))) :: ws_C cM cG o am ag pm pg (off, nm, ng, now, F, R)) sz) U H ∧ sa_P (va_A ((q, .inl (cJ, 1, .inr (.inl f))) :: ws_C cM cG o am ag pm pg (off, nm, ng, now, F, R)) sz) U H) (yt_P D cM cG cI cJ) [.ref o, .int x, .ref q]) (va_Qi (fun (r : Int32) (u : (Nat → Nat) × (Nat → Int64)) => r = (sp_ti (off, nm, ng, now, F, R) x).1 ∧ ((sp_ti (off, nm, ng, now, F, R) x).1 = 0 → u.2 0 = ((sp_ti (off, nm, ng, now, F, R) x).2.1).toInt64)) (mu_B D ((q, .inl (cJ, 1, .inr (.inl f))) :: ws_C cM cG o am ag pm pg (off, nm, ng, now, F, R)) sz (fun u => (q, .inl (cJ, 1, .inr (.inl u.2))) :: ws_C cM cG o am ag pm u.1 (sp_ti (off, nm, ng, now, F, R) x).2.2)) (va_A ((q, .inl (cJ, 1, .inr (.inl f))) :: ws_C cM cG o am ag pm pg (off, nm, ng, now, F, R)) sz)) 200 1400 (va_A ((q, .inl (cJ, 1, .inr (.inl f))) :: ws_C cM cG o am ag pm pg (off, nm, ng, now, F, R)) sz) := by
  refine va_MetW (cc := c_L_tick) (maxL := 4) (ret := (some .int)) (hh := [(0, 9, 12, 13)]) (by decide) rfl ?_
  intro p e s m args below meth c s₁ B hml hv
  obtain ⟨rfl, hsz, hP, hD0, hX, hY⟩ := hv
  have hx := B.exec
  have hb := B.bytes
  have hr := B.returns
  have htw : ∀ w ∈ tw_L, w.before _ s = true := fun w hw => atoms_spec (ws := (Cond.codeWith y_L_tick c_L_tick 4 (some .int) [(0, 9, 12, 13)] :: tw_L)) B.pre w (List.mem_cons_of_mem _ hw)
  have htab := vx_table (x := y_L_tick) (hh := [(0, 9, 12, 13)]) B (htw _ kw_L_tick)
  have hown : s.vm.findClass R_L = some m.cls := findClass_of_methodNamed B.named
  have hlocks := B.notSynchronized
  have hC : CallFix p m c c_L_tick 4 s _ tw_L R_L := ⟨hx, hb, hml, hown, htw⟩
  have hK := hY.1
  have hl := lv_entry ([.ref o, .int x, .ref q]) (n := 4) (Nat.le_of_ble_eq_true rfl)
  rw [lg_entry_eq]
  generalize (lg_sl ([.ref o, .int x, .ref q]) ++ List.replicate (4 - (lg_sl ([.ref o, .int x, .ref q])).length) Slot.unset).toArray = ls at hl ⊢
  have hl : lv_has ls 4 [(0, .ref o), (1, .int x), (2, .ref q)] := hl
  subst hsz
  obtain ⟨A, hAe⟩ : ∃ A : Nat → Prop, A = va_A ((q, .inl (cJ, 1, .inr (.inl f))) :: ws_C cM cG o am ag pm pg (off, nm, ng, now, F, R)) s.heap.size := ⟨_, rfl⟩
  have hD : va_D A ((q, .inl (cJ, 1, .inr (.inl f))) :: ws_C cM cG o am ag pm pg (off, nm, ng, now, F, R)) := by rw [hAe]; exact hD0.self
  have hA : ∀ q : Nat, s.heap.size ≤ q → A q := fun q h => by rw [hAe]; exact Or.inr h
  have hS : va_S A s.heap s.heap [] := va_S.rf
  have hXs : sx_P A s s.heap := by rw [hAe]; exact hX.1
  have hXa : sa_P A s s.heap := by rw [hAe]; exact hX.2
  refine lv_aload_n hx hb d_L_tick_0 rfl (lv_at hl 2 rfl) ?_
  refine lv_iconst (v := 0) hx hb d_L_tick_1 (by decide) ?_
  refine lv_aload_n hx hb d_L_tick_2 rfl (lv_at hl 0 rfl) ?_
  refine lv_iload_n hx hb d_L_tick_3 rfl (lv_at hl 1 rfl) ?_
  have hPs := wk_sw (wa := [(q, .inl (cJ, 1, .inr (.inl f)))]) hP
  have hDs := wk_swD (wa := [(q, .inl (cJ, 1, .inr (.inl f)))]) hD
  have hF9 := wk_F (wk_LD hDs) hS hA
  refine cx_Vi (n := 1) [.int x] hC (t_T_tick l D cM cG cI cJ o am ag pm pg off nm ng now F R _ x hl0 t9 hI) ⟨kc_T_tick, kn_T, k_L_28, ki_T_tick, kv_T_tick⟩ (by decide +kernel) ⟨rfl, rfl, Nat.le_of_ble_eq_true rfl, Nat.le_of_ble_eq_true rfl⟩ sz_2 (yt_Y D cM cG cI cJ) hY ⟨sx_k hXs hS hF9, sa_k hXa hS hF9⟩ (va_recv hK (wk_L hPs) (ci := 0) (q0 := 0) rfl rfl) (wk_L hPs) (wk_T (wk_LD hDs)) hS hF9 rfl hl.1 rfl (Nat.le_of_ble_eq_true rfl) d_L_tick_4 ⟨Nat.le_of_ble_eq_true rfl, Nat.le_of_ble_eq_true rfl⟩ (fun E ce q9 t H1 locs1 hE hk1 hS1 hc1 hc2 hc3 => ?_) (fun r1 u H1 locs1 hw9 hP1 hD1 hz9 hk9 hS1 => ?_)
  · obtain ⟨rfl, hE1⟩ := hE
    clear hPs hDs hF9
    have e_S : (sp_ti (off, nm, ng, now, F, R) x).2.2 = (off, nm, ng, now, F, R) := th_ti (by rw [hE1]; decide)
    refine vx_catch (own := R_L) (name := "java/lang/IllegalArgumentException") hown [] ⟨0, 9, 12, 13⟩ [] htab (fun z hz => nomatch hz) (by decide) (by decide) (htw _ k_L_13) (nx_use hY _ (by decide)) hc1 hc2 hc3 ?_
    have hP := va_P.kept hP (fun k x hx => hk1 _ (vx_lt hP hx))
    have hS := hS1
    clear hS1
    refine lv_astore_n (lv' := [(3, .ref q9), (0, .ref o), (1, .int x), (2, .ref q)]) hx hb d_L_tick_12 rfl hl (by decide) rfl (fun ls hl => ?_)
    refine lv_iconst (v := 1) hx hb d_L_tick_13 (by decide) ?_
    subst hAe
    refine W.widen (k := 200) (n := 1400) (by decide) (by decide) ?_
    exact W.iret (v := 1) hx hb hr (fun t ht hW => ⟨⟨_, (pg, f), rfl, ⟨hE1.symm, fun z => absurd (hE1.symm.trans z) (by decide)⟩, by rw [ht, e_S]; exact hP, by rw [e_S]; exact hD⟩, hS.F ht⟩) hS.2.2 d_L_tick_14
  · obtain ⟨hP2, hD2⟩ := jn_L hPs hDs hk9 hF9 hP1 hD1
    have hP := wk_sw hP2
    have hD := wk_swD hD2
    have hS := hS1
    clear hS1 hP2 hD2 hP1 hD1
    refine lv_i2l (v := r1.toInt64) hx hb d_L_tick_7 rfl ?_
    refine va_last hx hb hK hP hD hS 0 3 rfl rfl vi_01 d_L_tick_8 (fun H locs hP hD hS => ?_)
    refine lv_goto (tgt := 15) hx hb d_L_tick_9 (by decide) ?_
    refine lv_iconst (v := 0) hx hb d_L_tick_15 (by decide) ?_
    subst hAe
    refine W.widen (k := 200) (n := 1400) (by decide) (by decide) ?_
    exact W.iret (v := 0) hx hb hr (fun t ht hW => ⟨⟨_, (u, (vp_updL f (0 : Int32).toNatClampNeg r1.toInt64)), rfl, ⟨hw9.1.symm, fun _ => by rw [← hw9.2]; exact lg_u0 f _⟩, by rw [ht]; exact hP, hD⟩, hS.F ht⟩) hS.2.2 d_L_tick_16
theorem kw_L_discharge : Cond.codeWith y_L_discharge c_L_discharge 5 (some .int) [(0, 10, 13, 13)] ∈ tw_L := tw_in 414 (by decide +kernel) (by decide +kernel)
set_option maxHeartbeats 4000000 in
set_option maxRecDepth 100000 in
theorem t_L_discharge (l : Launch) (D : va_G) (cM cG cI cJ : ClassId) (o am ag : Nat) (pm pg : Nat → Nat) (off : Int32) (nm ng : Nat) (now : Int32) (F : Nat → Nat → Int32) (R : Nat → Int32) (q : Nat) (f : Nat → Int64) (sz : Nat) (x : Int32) (y : Int32) (hl0 : l.stackTraces = false) (t9 : Nat) (hI : iv_S t9 (off, nm, ng, now, F, R)) : Met l y_L_discharge (Cond.codeWith y_L_discharge c_L_discharge 5 (some .int) [(0, 10, 13, 13)] :: tw_L) ({ frames := 7, cells := 1, slots := 6, locals := 105 } : Room) (mu_P D ((q, .inl (cJ, 1, .inr (.inl f))) :: ws_C cM cG o am ag pm pg (off, nm, ng, now, F, R)) sz (fun U H => sx_P (va_A ((q, .inl (cJ, 1, .inr (.inl f))) :: ws_C cM cG o am ag pm pg (off, nm, ng, now, F, R)) sz) U H ∧ sa_P (va_A ((q, .inl (cJ, 1, .inr (.inl f))) :: ws_C cM cG o am ag pm pg (off, nm, ng, now, F, R)) sz) U H) (yt_P D cM cG cI cJ) [.ref o, .int x, .int y, .ref q]) (va_Qi (fun (r : Int32) (u : (Nat → Nat) × (Nat → Int64)) => r = (sp_di (off, nm, ng, now, F, R) x y).1 ∧ ((sp_di (off, nm, ng, now, F, R) x y).1 = 0 → u.2 0 = ((sp_di (off, nm, ng, now, F, R) x y).2.1).toInt64)) (mu_B D ((q, .inl (cJ, 1, .inr (.inl f))) :: ws_C cM cG o am ag pm pg (off, nm, ng, now, F, R)) sz (fun u => (q, .inl (cJ, 1, .inr (.inl u.2))) :: ws_C cM cG o am ag pm u.1 (sp_di (off, nm, ng, now, F, R) x y).2.2)) (va_A ((q, .inl (cJ, 1, .inr (.inl f))) :: ws_C cM cG o am ag pm pg (off, nm, ng, now, F, R)) sz)) 1 6 (va_A ((q, .inl (cJ, 1, .inr (.inl f))) :: ws_C cM cG o am ag pm pg (off, nm, ng, now, F, R)) sz) := by
  refine va_MetW (cc := c_L_discharge) (maxL := 5) (ret := (some .int)) (hh := [(0, 10, 13, 13)]) (by decide) rfl ?_
  intro p e s m args below meth c s₁ B hml hv
  obtain ⟨rfl, hsz, hP, hD0, hX, hY⟩ := hv
  have hx := B.exec
  have hb := B.bytes
  have hr := B.returns
  have htw : ∀ w ∈ tw_L, w.before _ s = true := fun w hw => atoms_spec (ws := (Cond.codeWith y_L_discharge c_L_discharge 5 (some .int) [(0, 10, 13, 13)] :: tw_L)) B.pre w (List.mem_cons_of_mem _ hw)
  have htab := vx_table (x := y_L_discharge) (hh := [(0, 10, 13, 13)]) B (htw _ kw_L_discharge)
  have hown : s.vm.findClass R_L = some m.cls := findClass_of_methodNamed B.named
  have hlocks := B.notSynchronized
  have hC : CallFix p m c c_L_discharge 5 s _ tw_L R_L := ⟨hx, hb, hml, hown, htw⟩
  have hK := hY.1
  have hl := lv_entry ([.ref o, .int x, .int y, .ref q]) (n := 5) (Nat.le_of_ble_eq_true rfl)
  rw [lg_entry_eq]
  generalize (lg_sl ([.ref o, .int x, .int y, .ref q]) ++ List.replicate (5 - (lg_sl ([.ref o, .int x, .int y, .ref q])).length) Slot.unset).toArray = ls at hl ⊢
  have hl : lv_has ls 5 [(0, .ref o), (1, .int x), (2, .int y), (3, .ref q)] := hl
  subst hsz
  obtain ⟨A, hAe⟩ : ∃ A : Nat → Prop, A = va_A ((q, .inl (cJ, 1, .inr (.inl f))) :: ws_C cM cG o am ag pm pg (off, nm, ng, now, F, R)) s.heap.size := ⟨_, rfl⟩
  have hD : va_D A ((q, .inl (cJ, 1, .inr (.inl f))) :: ws_C cM cG o am ag pm pg (off, nm, ng, now, F, R)) := by rw [hAe]; exact hD0.self
  have hA : ∀ q : Nat, s.heap.size ≤ q → A q := fun q h => by rw [hAe]; exact Or.inr h
  have hS : va_S A s.heap s.heap [] := va_S.rf
  have hXs : sx_P A s s.heap := by rw [hAe]; exact hX.1
  have hXa : sa_P A s s.heap := by rw [hAe]; exact hX.2
  refine lv_aload_n hx hb d_L_discharge_0 rfl (lv_at hl 3 rfl) ?_
  refine lv_iconst (v := 0) hx hb d_L_discharge_1 (by decide) ?_
  refine lv_aload_n hx hb d_L_discharge_2 rfl (lv_at hl 0 rfl) ?_
  refine lv_iload_n hx hb d_L_discharge_3 rfl (lv_at hl 1 rfl) ?_
  refine lv_iload_n hx hb d_L_discharge_4 rfl (lv_at hl 2 rfl) ?_
  have hPs := wk_sw (wa := [(q, .inl (cJ, 1, .inr (.inl f)))]) hP
  have hDs := wk_swD (wa := [(q, .inl (cJ, 1, .inr (.inl f)))]) hD
  have hF9 := wk_F (wk_LD hDs) hS hA
  refine cx_Vi (n := 2) [.int x, .int y] hC (t_T_discharge l D cM cG cI cJ o am ag pm pg off nm ng now F R _ x y hl0 t9 hI) ⟨kc_T_discharge, kn_T, k_L_32, ki_T_discharge, kv_T_discharge⟩ (by decide +kernel) ⟨rfl, rfl, Nat.le_of_ble_eq_true rfl, Nat.le_of_ble_eq_true rfl⟩ sx_X (yt_Y D cM cG cI cJ) hY (sx_k hXs hS hF9) (va_recv hK (wk_L hPs) (ci := 0) (q0 := 0) rfl rfl) (wk_L hPs) (wk_T (wk_LD hDs)) hS hF9 rfl hl.1 rfl (Nat.le_of_ble_eq_true rfl) d_L_discharge_5 ⟨Nat.le_of_ble_eq_true rfl, Nat.le_of_ble_eq_true rfl⟩ (fun E ce q9 t H1 locs1 hE hk1 hS1 hc1 hc2 hc3 => ?_) (fun r1 u H1 locs1 hw9 hP1 hD1 hz9 hk9 hS1 => ?_)
  · obtain ⟨rfl, hE1⟩ := hE
    clear hPs hDs hF9
    have e_S : (sp_di (off, nm, ng, now, F, R) x y).2.2 = (off, nm, ng, now, F, R) := th_di (by rw [hE1]; decide)
    refine vx_catch (own := R_L) (name := "java/lang/IllegalArgumentException") hown [] ⟨0, 10, 13, 13⟩ [] htab (fun z hz => nomatch hz) (by decide) (by decide) (htw _ k_L_13) (nx_use hY _ (by decide)) hc1 hc2 hc3 ?_
    have hP := va_P.kept hP (fun k x hx => hk1 _ (vx_lt hP hx))
    have hS := hS1
    clear hS1
    refine lv_astore (lv' := [(4, .ref q9), (0, .ref o), (1, .int x), (2, .int y), (3, .ref q)]) hx hb d_L_discharge_13 hl (by decide) rfl (fun ls hl => ?_)
    refine lv_iconst (v := 1) hx hb d_L_discharge_15 (by decide) ?_
    subst hAe
    refine W.widen (k := 1) (n := 6) (by decide) (by decide) ?_
    exact W.iret (v := 1) hx hb hr (fun t ht hW => ⟨⟨_, (pg, f), rfl, ⟨hE1.symm, fun z => absurd (hE1.symm.trans z) (by decide)⟩, by rw [ht, e_S]; exact hP, by rw [e_S]; exact hD⟩, hS.F ht⟩) hS.2.2 d_L_discharge_16
  · obtain ⟨hP2, hD2⟩ := jn_L hPs hDs hk9 hF9 hP1 hD1
    have hP := wk_sw hP2
    have hD := wk_swD hD2
    have hS := hS1
    clear hS1 hP2 hD2 hP1 hD1
    refine lv_i2l (v := r1.toInt64) hx hb d_L_discharge_8 rfl ?_
    refine va_last hx hb hK hP hD hS 0 3 rfl rfl vi_01 d_L_discharge_9 (fun H locs hP hD hS => ?_)
    refine lv_goto (tgt := 17) hx hb d_L_discharge_10 (by decide) ?_
    refine lv_iconst (v := 0) hx hb d_L_discharge_17 (by decide) ?_
    subst hAe
    refine W.widen (k := 1) (n := 6) (by decide) (by decide) ?_
    exact W.iret (v := 0) hx hb hr (fun t ht hW => ⟨⟨_, (u, (vp_updL f (0 : Int32).toNatClampNeg r1.toInt64)), rfl, ⟨hw9.1.symm, fun _ => by rw [← hw9.2]; exact lg_u0 f _⟩, by rw [ht]; exact hP, hD⟩, hS.F ht⟩) hS.2.2 d_L_discharge_18
theorem kw_L_proof : Cond.codeWith y_L_proof c_L_proof 4 (some .int) [(0, 9, 12, 13)] ∈ tw_L := tw_in 423 (by decide +kernel) (by decide +kernel)
set_option maxHeartbeats 4000000 in
set_option maxRecDepth 100000 in
theorem t_L_proof (l : Launch) (D : va_G) (cM cG cI cJ : ClassId) (o am ag : Nat) (pm pg : Nat → Nat) (off : Int32) (nm ng : Nat) (now : Int32) (F : Nat → Nat → Int32) (R : Nat → Int32) (q : Nat) (f : Nat → Int64) (sz : Nat) (x : Int32) (hl0 : l.stackTraces = false) (t9 : Nat) (hI : iv_S t9 (off, nm, ng, now, F, R)) : Met l y_L_proof (Cond.codeWith y_L_proof c_L_proof 4 (some .int) [(0, 9, 12, 13)] :: tw_L) ({ frames := 7, cells := 1, slots := 6, locals := 104 } : Room) (mu_P D ((q, .inl (cJ, 1, .inr (.inl f))) :: ws_C cM cG o am ag pm pg (off, nm, ng, now, F, R)) sz (fun U H => sx_P (va_A ((q, .inl (cJ, 1, .inr (.inl f))) :: ws_C cM cG o am ag pm pg (off, nm, ng, now, F, R)) sz) U H ∧ sa_P (va_A ((q, .inl (cJ, 1, .inr (.inl f))) :: ws_C cM cG o am ag pm pg (off, nm, ng, now, F, R)) sz) U H) (yt_P D cM cG cI cJ) [.ref o, .int x, .ref q]) (va_Qi (fun (r : Int32) (u : (Nat → Nat) × (Nat → Int64)) => r = (sp_pr (off, nm, ng, now, F, R) x).1 ∧ ((sp_pr (off, nm, ng, now, F, R) x).1 = 0 → u.2 0 = ((sp_pr (off, nm, ng, now, F, R) x).2.1).toInt64)) (mu_B D ((q, .inl (cJ, 1, .inr (.inl f))) :: ws_C cM cG o am ag pm pg (off, nm, ng, now, F, R)) sz (fun u => (q, .inl (cJ, 1, .inr (.inl u.2))) :: ws_C cM cG o am ag pm u.1 (sp_pr (off, nm, ng, now, F, R) x).2.2)) (va_A ((q, .inl (cJ, 1, .inr (.inl f))) :: ws_C cM cG o am ag pm pg (off, nm, ng, now, F, R)) sz)) 1 6 (va_A ((q, .inl (cJ, 1, .inr (.inl f))) :: ws_C cM cG o am ag pm pg (off, nm, ng, now, F, R)) sz) := by
  refine va_MetW (cc := c_L_proof) (maxL := 4) (ret := (some .int)) (hh := [(0, 9, 12, 13)]) (by decide) rfl ?_
  intro p e s m args below meth c s₁ B hml hv
  obtain ⟨rfl, hsz, hP, hD0, hX, hY⟩ := hv
  have hx := B.exec
  have hb := B.bytes
  have hr := B.returns
  have htw : ∀ w ∈ tw_L, w.before _ s = true := fun w hw => atoms_spec (ws := (Cond.codeWith y_L_proof c_L_proof 4 (some .int) [(0, 9, 12, 13)] :: tw_L)) B.pre w (List.mem_cons_of_mem _ hw)
  have htab := vx_table (x := y_L_proof) (hh := [(0, 9, 12, 13)]) B (htw _ kw_L_proof)
  have hown : s.vm.findClass R_L = some m.cls := findClass_of_methodNamed B.named
  have hlocks := B.notSynchronized
  have hC : CallFix p m c c_L_proof 4 s _ tw_L R_L := ⟨hx, hb, hml, hown, htw⟩
  have hK := hY.1
  have hl := lv_entry ([.ref o, .int x, .ref q]) (n := 4) (Nat.le_of_ble_eq_true rfl)
  rw [lg_entry_eq]
  generalize (lg_sl ([.ref o, .int x, .ref q]) ++ List.replicate (4 - (lg_sl ([.ref o, .int x, .ref q])).length) Slot.unset).toArray = ls at hl ⊢
  have hl : lv_has ls 4 [(0, .ref o), (1, .int x), (2, .ref q)] := hl
  subst hsz
  obtain ⟨A, hAe⟩ : ∃ A : Nat → Prop, A = va_A ((q, .inl (cJ, 1, .inr (.inl f))) :: ws_C cM cG o am ag pm pg (off, nm, ng, now, F, R)) s.heap.size := ⟨_, rfl⟩
  have hD : va_D A ((q, .inl (cJ, 1, .inr (.inl f))) :: ws_C cM cG o am ag pm pg (off, nm, ng, now, F, R)) := by rw [hAe]; exact hD0.self
  have hA : ∀ q : Nat, s.heap.size ≤ q → A q := fun q h => by rw [hAe]; exact Or.inr h
  have hS : va_S A s.heap s.heap [] := va_S.rf
  have hXs : sx_P A s s.heap := by rw [hAe]; exact hX.1
  have hXa : sa_P A s s.heap := by rw [hAe]; exact hX.2
  refine lv_aload_n hx hb d_L_proof_0 rfl (lv_at hl 2 rfl) ?_
  refine lv_iconst (v := 0) hx hb d_L_proof_1 (by decide) ?_
  refine lv_aload_n hx hb d_L_proof_2 rfl (lv_at hl 0 rfl) ?_
  refine lv_iload_n hx hb d_L_proof_3 rfl (lv_at hl 1 rfl) ?_
  have hPs := wk_sw (wa := [(q, .inl (cJ, 1, .inr (.inl f)))]) hP
  have hDs := wk_swD (wa := [(q, .inl (cJ, 1, .inr (.inl f)))]) hD
  have hF9 := wk_F (wk_LD hDs) hS hA
  refine cx_Vi (n := 1) [.int x] hC (t_T_proof l D cM cG cI cJ o am ag pm pg off nm ng now F R _ x hl0 t9 hI) ⟨kc_T_proof, kn_T, k_L_35, ki_T_proof, kv_T_proof⟩ (by decide +kernel) ⟨rfl, rfl, Nat.le_of_ble_eq_true rfl, Nat.le_of_ble_eq_true rfl⟩ sx_X (yt_Y D cM cG cI cJ) hY (sx_k hXs hS hF9) (va_recv hK (wk_L hPs) (ci := 0) (q0 := 0) rfl rfl) (wk_L hPs) (wk_T (wk_LD hDs)) hS hF9 rfl hl.1 rfl (Nat.le_of_ble_eq_true rfl) d_L_proof_4 ⟨Nat.le_of_ble_eq_true rfl, Nat.le_of_ble_eq_true rfl⟩ (fun E ce q9 t H1 locs1 hE hk1 hS1 hc1 hc2 hc3 => ?_) (fun r1 u H1 locs1 hw9 hP1 hD1 hz9 hk9 hS1 => ?_)
  · obtain ⟨rfl, hE1⟩ := hE
    clear hPs hDs hF9
    have e_S : (sp_pr (off, nm, ng, now, F, R) x).2.2 = (off, nm, ng, now, F, R) := th_pr (by rw [hE1]; decide)
    refine vx_catch (own := R_L) (name := "java/lang/IllegalArgumentException") hown [] ⟨0, 9, 12, 13⟩ [] htab (fun z hz => nomatch hz) (by decide) (by decide) (htw _ k_L_13) (nx_use hY _ (by decide)) hc1 hc2 hc3 ?_
    have hP := va_P.kept hP (fun k x hx => hk1 _ (vx_lt hP hx))
    have hS := hS1
    clear hS1
    refine lv_astore_n (lv' := [(3, .ref q9), (0, .ref o), (1, .int x), (2, .ref q)]) hx hb d_L_proof_12 rfl hl (by decide) rfl (fun ls hl => ?_)
    refine lv_iconst (v := 1) hx hb d_L_proof_13 (by decide) ?_
    subst hAe
    refine W.widen (k := 1) (n := 6) (by decide) (by decide) ?_
    exact W.iret (v := 1) hx hb hr (fun t ht hW => ⟨⟨_, (pg, f), rfl, ⟨hE1.symm, fun z => absurd (hE1.symm.trans z) (by decide)⟩, by rw [ht, e_S]; exact hP, by rw [e_S]; exact hD⟩, hS.F ht⟩) hS.2.2 d_L_proof_14
  · obtain ⟨hP2, hD2⟩ := jn_L hPs hDs hk9 hF9 hP1 hD1
    have hP := wk_sw hP2
    have hD := wk_swD hD2
    have hS := hS1
    clear hS1 hP2 hD2 hP1 hD1
    refine lv_i2l (v := r1.toInt64) hx hb d_L_proof_7 rfl ?_
    refine va_last hx hb hK hP hD hS 0 3 rfl rfl vi_01 d_L_proof_8 (fun H locs hP hD hS => ?_)
    refine lv_goto (tgt := 15) hx hb d_L_proof_9 (by decide) ?_
    refine lv_iconst (v := 0) hx hb d_L_proof_15 (by decide) ?_
    subst hAe
    refine W.widen (k := 1) (n := 6) (by decide) (by decide) ?_
    exact W.iret (v := 0) hx hb hr (fun t ht hW => ⟨⟨_, (u, (vp_updL f (0 : Int32).toNatClampNeg r1.toInt64)), rfl, ⟨hw9.1.symm, fun _ => by rw [← hw9.2]; exact lg_u0 f _⟩, by rw [ht]; exact hP, hD⟩, hS.F ht⟩) hS.2.2 d_L_proof_16
theorem kw_L_state : Cond.codeWith y_L_state c_L_state 5 (some .int) [(0, 10, 13, 41)] ∈ tw_L := tw_in 432 (by decide +kernel) (by decide +kernel)
set_option maxHeartbeats 4000000 in
set_option maxRecDepth 100000 in
theorem t_L_state (l : Launch) (D : va_G) (cM cG cI cJ : ClassId) (o am ag : Nat) (pm pg : Nat → Nat) (off : Int32) (nm ng : Nat) (now : Int32) (F : Nat → Nat → Int32) (R : Nat → Int32) (q : Nat) (f : Nat → Int64) (sz : Nat) (x : Int32) (y : Int32) (hl0 : l.stackTraces = false) (t9 : Nat) (hI : iv_S t9 (off, nm, ng, now, F, R)) : Met l y_L_state (Cond.codeWith y_L_state c_L_state 5 (some .int) [(0, 10, 13, 41)] :: tw_L) ({ frames := 7, cells := 1, slots := 6, locals := 105 } : Room) (mu_P D ((q, .inl (cJ, 1, .inr (.inl f))) :: ws_C cM cG o am ag pm pg (off, nm, ng, now, F, R)) sz (fun U H => sx_P (va_A ((q, .inl (cJ, 1, .inr (.inl f))) :: ws_C cM cG o am ag pm pg (off, nm, ng, now, F, R)) sz) U H ∧ sa_P (va_A ((q, .inl (cJ, 1, .inr (.inl f))) :: ws_C cM cG o am ag pm pg (off, nm, ng, now, F, R)) sz) U H) (yt_P D cM cG cI cJ) [.ref o, .int x, .int y, .ref q]) (va_Qi (fun (r : Int32) (u : (Nat → Int64)) => r = (sp_st (off, nm, ng, now, F, R) x y).1 ∧ ((sp_st (off, nm, ng, now, F, R) x y).1 = 0 → u 0 = ((sp_st (off, nm, ng, now, F, R) x y).2).toInt64)) (mu_B D ((q, .inl (cJ, 1, .inr (.inl f))) :: ws_C cM cG o am ag pm pg (off, nm, ng, now, F, R)) sz (fun u => (q, .inl (cJ, 1, .inr (.inl u))) :: ws_C cM cG o am ag pm pg (off, nm, ng, now, F, R))) (va_A ((q, .inl (cJ, 1, .inr (.inl f))) :: ws_C cM cG o am ag pm pg (off, nm, ng, now, F, R)) sz)) 1 6 (va_A ((q, .inl (cJ, 1, .inr (.inl f))) :: ws_C cM cG o am ag pm pg (off, nm, ng, now, F, R)) sz) := by
  refine va_MetW (cc := c_L_state) (maxL := 5) (ret := (some .int)) (hh := [(0, 10, 13, 41)]) (by decide) rfl ?_
  intro p e s m args below meth c s₁ B hml hv
  obtain ⟨rfl, hsz, hP, hD0, hX, hY⟩ := hv
  have hx := B.exec
  have hb := B.bytes
  have hr := B.returns
  have htw : ∀ w ∈ tw_L, w.before _ s = true := fun w hw => atoms_spec (ws := (Cond.codeWith y_L_state c_L_state 5 (some .int) [(0, 10, 13, 41)] :: tw_L)) B.pre w (List.mem_cons_of_mem _ hw)
  have htab := vx_table (x := y_L_state) (hh := [(0, 10, 13, 41)]) B (htw _ kw_L_state)
  have hown : s.vm.findClass R_L = some m.cls := findClass_of_methodNamed B.named
  have hlocks := B.notSynchronized
  have hC : CallFix p m c c_L_state 5 s _ tw_L R_L := ⟨hx, hb, hml, hown, htw⟩
  have hK := hY.1
  have hl := lv_entry ([.ref o, .int x, .int y, .ref q]) (n := 5) (Nat.le_of_ble_eq_true rfl)
  rw [lg_entry_eq]
  generalize (lg_sl ([.ref o, .int x, .int y, .ref q]) ++ List.replicate (5 - (lg_sl ([.ref o, .int x, .int y, .ref q])).length) Slot.unset).toArray = ls at hl ⊢
  have hl : lv_has ls 5 [(0, .ref o), (1, .int x), (2, .int y), (3, .ref q)] := hl
  subst hsz
  obtain ⟨A, hAe⟩ : ∃ A : Nat → Prop, A = va_A ((q, .inl (cJ, 1, .inr (.inl f))) :: ws_C cM cG o am ag pm pg (off, nm, ng, now, F, R)) s.heap.size := ⟨_, rfl⟩
  have hD : va_D A ((q, .inl (cJ, 1, .inr (.inl f))) :: ws_C cM cG o am ag pm pg (off, nm, ng, now, F, R)) := by rw [hAe]; exact hD0.self
  have hA : ∀ q : Nat, s.heap.size ≤ q → A q := fun q h => by rw [hAe]; exact Or.inr h
  have hS : va_S A s.heap s.heap [] := va_S.rf
  have hXs : sx_P A s s.heap := by rw [hAe]; exact hX.1
  have hXa : sa_P A s s.heap := by rw [hAe]; exact hX.2
  refine lv_aload_n hx hb d_L_state_0 rfl (lv_at hl 3 rfl) ?_
  refine lv_iconst (v := 0) hx hb d_L_state_1 (by decide) ?_
  refine lv_aload_n hx hb d_L_state_2 rfl (lv_at hl 0 rfl) ?_
  refine lv_iload_n hx hb d_L_state_3 rfl (lv_at hl 1 rfl) ?_
  refine lv_iload_n hx hb d_L_state_4 rfl (lv_at hl 2 rfl) ?_
  have hPs := wk_sw (wa := [(q, .inl (cJ, 1, .inr (.inl f)))]) hP
  have hDs := wk_swD (wa := [(q, .inl (cJ, 1, .inr (.inl f)))]) hD
  have hF9 := wk_F (wk_LD hDs) hS hA
  refine cx_Vi (n := 2) [.int x, .int y] hC (t_T_state l D cM cG cI cJ o am ag pm pg off nm ng now F R _ x y hl0 t9 hI) ⟨kc_T_state, kn_T, k_L_38, ki_T_state, kv_T_state⟩ (by decide +kernel) ⟨rfl, rfl, Nat.le_of_ble_eq_true rfl, Nat.le_of_ble_eq_true rfl⟩ sx_X (yt_Y D cM cG cI cJ) hY (sx_k hXs hS hF9) (va_recv hK (wk_L hPs) (ci := 0) (q0 := 0) rfl rfl) (wk_L hPs) (wk_T (wk_LD hDs)) hS hF9 rfl hl.1 rfl (Nat.le_of_ble_eq_true rfl) d_L_state_5 ⟨Nat.le_of_ble_eq_true rfl, Nat.le_of_ble_eq_true rfl⟩ (fun E ce q9 t H1 locs1 hE hk1 hS1 hc1 hc2 hc3 => ?_) (fun r1 u H1 locs1 hw9 hP1 hD1 hz9 hk9 hS1 => ?_)
  · obtain ⟨rfl, hE1⟩ := hE
    clear hPs hDs hF9
    refine vx_catch (own := R_L) (name := "java/lang/IndexOutOfBoundsException") hown [] ⟨0, 10, 13, 41⟩ [] htab (fun z hz => nomatch hz) (by decide) (by decide) (htw _ k_L_41) (nx_use hY _ (by decide)) hc1 hc2 hc3 ?_
    have hP := va_P.kept hP (fun k x hx => hk1 _ (vx_lt hP hx))
    have hS := hS1
    clear hS1
    refine lv_astore (lv' := [(4, .ref q9), (0, .ref o), (1, .int x), (2, .int y), (3, .ref q)]) hx hb d_L_state_13 hl (by decide) rfl (fun ls hl => ?_)
    refine lv_iconst (v := 1) hx hb d_L_state_15 (by decide) ?_
    subst hAe
    refine W.widen (k := 1) (n := 6) (by decide) (by decide) ?_
    exact W.iret (v := 1) hx hb hr (fun t ht hW => ⟨⟨_, f, rfl, ⟨hE1.symm, fun z => absurd (hE1.symm.trans z) (by decide)⟩, by rw [ht]; exact hP, hD⟩, hS.F ht⟩) hS.2.2 d_L_state_16
  · obtain ⟨hP2, hD2⟩ := jn_L hPs hDs hk9 hF9 hP1 hD1
    have hP := wk_sw hP2
    have hD := wk_swD hD2
    have hS := hS1
    clear hS1 hP2 hD2 hP1 hD1
    refine lv_i2l (v := r1.toInt64) hx hb d_L_state_8 rfl ?_
    refine va_last hx hb hK hP hD hS 0 3 rfl rfl vi_01 d_L_state_9 (fun H locs hP hD hS => ?_)
    refine lv_goto (tgt := 17) hx hb d_L_state_10 (by decide) ?_
    refine lv_iconst (v := 0) hx hb d_L_state_17 (by decide) ?_
    subst hAe
    refine W.widen (k := 1) (n := 6) (by decide) (by decide) ?_
    exact W.iret (v := 0) hx hb hr (fun t ht hW => ⟨⟨_, (vp_updL f (0 : Int32).toNatClampNeg r1.toInt64), rfl, ⟨hw9.1.symm, fun _ => by rw [← hw9.2]; exact lg_u0 f _⟩, by rw [ht]; exact hP, hD⟩, hS.F ht⟩) hS.2.2 d_L_state_18
theorem kw_L_office : Cond.codeWith y_L_office c_L_office 5 (some .int) [(0, 10, 13, 41)] ∈ tw_L := tw_in 456 (by decide +kernel) (by decide +kernel)
set_option maxHeartbeats 4000000 in
set_option maxRecDepth 100000 in
theorem t_L_office (l : Launch) (D : va_G) (cM cG cI cJ : ClassId) (o am ag : Nat) (pm pg : Nat → Nat) (off : Int32) (nm ng : Nat) (now : Int32) (F : Nat → Nat → Int32) (R : Nat → Int32) (q : Nat) (f : Nat → Int64) (sz : Nat) (x : Int32) (y : Int32) (hl0 : l.stackTraces = false) (t9 : Nat) (hI : iv_S t9 (off, nm, ng, now, F, R)) : Met l y_L_office (Cond.codeWith y_L_office c_L_office 5 (some .int) [(0, 10, 13, 41)] :: tw_L) ({ frames := 7, cells := 1, slots := 6, locals := 107 } : Room) (mu_P D ((q, .inl (cJ, 1, .inr (.inl f))) :: ws_C cM cG o am ag pm pg (off, nm, ng, now, F, R)) sz (fun U H => sx_P (va_A ((q, .inl (cJ, 1, .inr (.inl f))) :: ws_C cM cG o am ag pm pg (off, nm, ng, now, F, R)) sz) U H ∧ sa_P (va_A ((q, .inl (cJ, 1, .inr (.inl f))) :: ws_C cM cG o am ag pm pg (off, nm, ng, now, F, R)) sz) U H) (yt_P D cM cG cI cJ) [.ref o, .int x, .int y, .ref q]) (va_Qi (fun (r : Int32) (u : (Nat → Int64)) => r = (sp_of (off, nm, ng, now, F, R) x y).1 ∧ ((sp_of (off, nm, ng, now, F, R) x y).1 = 0 → u 0 = ((sp_of (off, nm, ng, now, F, R) x y).2).toInt64)) (mu_B D ((q, .inl (cJ, 1, .inr (.inl f))) :: ws_C cM cG o am ag pm pg (off, nm, ng, now, F, R)) sz (fun u => (q, .inl (cJ, 1, .inr (.inl u))) :: ws_C cM cG o am ag pm pg (off, nm, ng, now, F, R))) (va_A ((q, .inl (cJ, 1, .inr (.inl f))) :: ws_C cM cG o am ag pm pg (off, nm, ng, now, F, R)) sz)) 1 6 (va_A ((q, .inl (cJ, 1, .inr (.inl f))) :: ws_C cM cG o am ag pm pg (off, nm, ng, now, F, R)) sz) := by
  refine va_MetW (cc := c_L_office) (maxL := 5) (ret := (some .int)) (hh := [(0, 10, 13, 41)]) (by decide) rfl ?_
  intro p e s m args below meth c s₁ B hml hv
  obtain ⟨rfl, hsz, hP, hD0, hX, hY⟩ := hv
  have hx := B.exec
  have hb := B.bytes
  have hr := B.returns
  have htw : ∀ w ∈ tw_L, w.before _ s = true := fun w hw => atoms_spec (ws := (Cond.codeWith y_L_office c_L_office 5 (some .int) [(0, 10, 13, 41)] :: tw_L)) B.pre w (List.mem_cons_of_mem _ hw)
  have htab := vx_table (x := y_L_office) (hh := [(0, 10, 13, 41)]) B (htw _ kw_L_office)
  have hown : s.vm.findClass R_L = some m.cls := findClass_of_methodNamed B.named
  have hlocks := B.notSynchronized
  have hC : CallFix p m c c_L_office 5 s _ tw_L R_L := ⟨hx, hb, hml, hown, htw⟩
  have hK := hY.1
  have hl := lv_entry ([.ref o, .int x, .int y, .ref q]) (n := 5) (Nat.le_of_ble_eq_true rfl)
  rw [lg_entry_eq]
  generalize (lg_sl ([.ref o, .int x, .int y, .ref q]) ++ List.replicate (5 - (lg_sl ([.ref o, .int x, .int y, .ref q])).length) Slot.unset).toArray = ls at hl ⊢
  have hl : lv_has ls 5 [(0, .ref o), (1, .int x), (2, .int y), (3, .ref q)] := hl
  subst hsz
  obtain ⟨A, hAe⟩ : ∃ A : Nat → Prop, A = va_A ((q, .inl (cJ, 1, .inr (.inl f))) :: ws_C cM cG o am ag pm pg (off, nm, ng, now, F, R)) s.heap.size := ⟨_, rfl⟩
  have hD : va_D A ((q, .inl (cJ, 1, .inr (.inl f))) :: ws_C cM cG o am ag pm pg (off, nm, ng, now, F, R)) := by rw [hAe]; exact hD0.self
  have hA : ∀ q : Nat, s.heap.size ≤ q → A q := fun q h => by rw [hAe]; exact Or.inr h
  have hS : va_S A s.heap s.heap [] := va_S.rf
  have hXs : sx_P A s s.heap := by rw [hAe]; exact hX.1
  have hXa : sa_P A s s.heap := by rw [hAe]; exact hX.2
  refine lv_aload_n hx hb d_L_office_0 rfl (lv_at hl 3 rfl) ?_
  refine lv_iconst (v := 0) hx hb d_L_office_1 (by decide) ?_
  refine lv_aload_n hx hb d_L_office_2 rfl (lv_at hl 0 rfl) ?_
  refine lv_iload_n hx hb d_L_office_3 rfl (lv_at hl 1 rfl) ?_
  refine lv_iload_n hx hb d_L_office_4 rfl (lv_at hl 2 rfl) ?_
  have hPs := wk_sw (wa := [(q, .inl (cJ, 1, .inr (.inl f)))]) hP
  have hDs := wk_swD (wa := [(q, .inl (cJ, 1, .inr (.inl f)))]) hD
  have hF9 := wk_F (wk_LD hDs) hS hA
  refine cx_Vi (n := 2) [.int x, .int y] hC (t_T_office l D cM cG cI cJ o am ag pm pg off nm ng now F R _ x y hl0 t9 hI) ⟨kc_T_office, kn_T, k_L_43, ki_T_office, kv_T_office⟩ (by decide +kernel) ⟨rfl, rfl, Nat.le_of_ble_eq_true rfl, Nat.le_of_ble_eq_true rfl⟩ sx_X (yt_Y D cM cG cI cJ) hY (sx_k hXs hS hF9) (va_recv hK (wk_L hPs) (ci := 0) (q0 := 0) rfl rfl) (wk_L hPs) (wk_T (wk_LD hDs)) hS hF9 rfl hl.1 rfl (Nat.le_of_ble_eq_true rfl) d_L_office_5 ⟨Nat.le_of_ble_eq_true rfl, Nat.le_of_ble_eq_true rfl⟩ (fun E ce q9 t H1 locs1 hE hk1 hS1 hc1 hc2 hc3 => ?_) (fun r1 u H1 locs1 hw9 hP1 hD1 hz9 hk9 hS1 => ?_)
  · obtain ⟨rfl, hE1⟩ := hE
    clear hPs hDs hF9
    refine vx_catch (own := R_L) (name := "java/lang/IndexOutOfBoundsException") hown [] ⟨0, 10, 13, 41⟩ [] htab (fun z hz => nomatch hz) (by decide) (by decide) (htw _ k_L_41) (nx_use hY _ (by decide)) hc1 hc2 hc3 ?_
    have hP := va_P.kept hP (fun k x hx => hk1 _ (vx_lt hP hx))
    have hS := hS1
    clear hS1
    refine lv_astore (lv' := [(4, .ref q9), (0, .ref o), (1, .int x), (2, .int y), (3, .ref q)]) hx hb d_L_office_13 hl (by decide) rfl (fun ls hl => ?_)
    refine lv_iconst (v := 1) hx hb d_L_office_15 (by decide) ?_
    subst hAe
    refine W.widen (k := 1) (n := 6) (by decide) (by decide) ?_
    exact W.iret (v := 1) hx hb hr (fun t ht hW => ⟨⟨_, f, rfl, ⟨hE1.symm, fun z => absurd (hE1.symm.trans z) (by decide)⟩, by rw [ht]; exact hP, hD⟩, hS.F ht⟩) hS.2.2 d_L_office_16
  · obtain ⟨hP2, hD2⟩ := jn_L hPs hDs hk9 hF9 hP1 hD1
    have hP := wk_sw hP2
    have hD := wk_swD hD2
    have hS := hS1
    clear hS1 hP2 hD2 hP1 hD1
    refine lv_i2l (v := r1.toInt64) hx hb d_L_office_8 rfl ?_
    refine va_last hx hb hK hP hD hS 0 3 rfl rfl vi_01 d_L_office_9 (fun H locs hP hD hS => ?_)
    refine lv_goto (tgt := 17) hx hb d_L_office_10 (by decide) ?_
    refine lv_iconst (v := 0) hx hb d_L_office_17 (by decide) ?_
    subst hAe
    refine W.widen (k := 1) (n := 6) (by decide) (by decide) ?_
    exact W.iret (v := 0) hx hb hr (fun t ht hW => ⟨⟨_, (vp_updL f (0 : Int32).toNatClampNeg r1.toInt64), rfl, ⟨hw9.1.symm, fun _ => by rw [← hw9.2]; exact lg_u0 f _⟩, by rw [ht]; exact hP, hD⟩, hS.F ht⟩) hS.2.2 d_L_office_18
theorem kw_L_message : Cond.codeWith y_L_message c_L_message 5 (some .int) [(0, 10, 13, 41)] ∈ tw_L := tw_in 464 (by decide +kernel) (by decide +kernel)
set_option maxHeartbeats 4000000 in
set_option maxRecDepth 100000 in
theorem t_L_message (l : Launch) (D : va_G) (cM cG cI cJ : ClassId) (o am ag : Nat) (pm pg : Nat → Nat) (off : Int32) (nm ng : Nat) (now : Int32) (F : Nat → Nat → Int32) (R : Nat → Int32) (q : Nat) (f : Nat → Int64) (sz : Nat) (x : Int32) (y : Int32) (hl0 : l.stackTraces = false) (t9 : Nat) (hI : iv_S t9 (off, nm, ng, now, F, R)) : Met l y_L_message (Cond.codeWith y_L_message c_L_message 5 (some .int) [(0, 10, 13, 41)] :: tw_L) ({ frames := 7, cells := 1, slots := 6, locals := 105 } : Room) (mu_P D ((q, .inl (cJ, 1, .inr (.inl f))) :: ws_C cM cG o am ag pm pg (off, nm, ng, now, F, R)) sz (fun U H => sx_P (va_A ((q, .inl (cJ, 1, .inr (.inl f))) :: ws_C cM cG o am ag pm pg (off, nm, ng, now, F, R)) sz) U H ∧ sa_P (va_A ((q, .inl (cJ, 1, .inr (.inl f))) :: ws_C cM cG o am ag pm pg (off, nm, ng, now, F, R)) sz) U H) (yt_P D cM cG cI cJ) [.ref o, .int x, .int y, .ref q]) (va_Qi (fun (r : Int32) (u : (Nat → Int64)) => r = (sp_me (off, nm, ng, now, F, R) x y).1 ∧ ((sp_me (off, nm, ng, now, F, R) x y).1 = 0 → u 0 = ((sp_me (off, nm, ng, now, F, R) x y).2).toInt64)) (mu_B D ((q, .inl (cJ, 1, .inr (.inl f))) :: ws_C cM cG o am ag pm pg (off, nm, ng, now, F, R)) sz (fun u => (q, .inl (cJ, 1, .inr (.inl u))) :: ws_C cM cG o am ag pm pg (off, nm, ng, now, F, R))) (va_A ((q, .inl (cJ, 1, .inr (.inl f))) :: ws_C cM cG o am ag pm pg (off, nm, ng, now, F, R)) sz)) 1 6 (va_A ((q, .inl (cJ, 1, .inr (.inl f))) :: ws_C cM cG o am ag pm pg (off, nm, ng, now, F, R)) sz) := by
  refine va_MetW (cc := c_L_message) (maxL := 5) (ret := (some .int)) (hh := [(0, 10, 13, 41)]) (by decide) rfl ?_
  intro p e s m args below meth c s₁ B hml hv
  obtain ⟨rfl, hsz, hP, hD0, hX, hY⟩ := hv
  have hx := B.exec
  have hb := B.bytes
  have hr := B.returns
  have htw : ∀ w ∈ tw_L, w.before _ s = true := fun w hw => atoms_spec (ws := (Cond.codeWith y_L_message c_L_message 5 (some .int) [(0, 10, 13, 41)] :: tw_L)) B.pre w (List.mem_cons_of_mem _ hw)
  have htab := vx_table (x := y_L_message) (hh := [(0, 10, 13, 41)]) B (htw _ kw_L_message)
  have hown : s.vm.findClass R_L = some m.cls := findClass_of_methodNamed B.named
  have hlocks := B.notSynchronized
  have hC : CallFix p m c c_L_message 5 s _ tw_L R_L := ⟨hx, hb, hml, hown, htw⟩
  have hK := hY.1
  have hl := lv_entry ([.ref o, .int x, .int y, .ref q]) (n := 5) (Nat.le_of_ble_eq_true rfl)
  rw [lg_entry_eq]
  generalize (lg_sl ([.ref o, .int x, .int y, .ref q]) ++ List.replicate (5 - (lg_sl ([.ref o, .int x, .int y, .ref q])).length) Slot.unset).toArray = ls at hl ⊢
  have hl : lv_has ls 5 [(0, .ref o), (1, .int x), (2, .int y), (3, .ref q)] := hl
  subst hsz
  obtain ⟨A, hAe⟩ : ∃ A : Nat → Prop, A = va_A ((q, .inl (cJ, 1, .inr (.inl f))) :: ws_C cM cG o am ag pm pg (off, nm, ng, now, F, R)) s.heap.size := ⟨_, rfl⟩
  have hD : va_D A ((q, .inl (cJ, 1, .inr (.inl f))) :: ws_C cM cG o am ag pm pg (off, nm, ng, now, F, R)) := by rw [hAe]; exact hD0.self
  have hA : ∀ q : Nat, s.heap.size ≤ q → A q := fun q h => by rw [hAe]; exact Or.inr h
  have hS : va_S A s.heap s.heap [] := va_S.rf
  have hXs : sx_P A s s.heap := by rw [hAe]; exact hX.1
  have hXa : sa_P A s s.heap := by rw [hAe]; exact hX.2
  refine lv_aload_n hx hb d_L_message_0 rfl (lv_at hl 3 rfl) ?_
  refine lv_iconst (v := 0) hx hb d_L_message_1 (by decide) ?_
  refine lv_aload_n hx hb d_L_message_2 rfl (lv_at hl 0 rfl) ?_
  refine lv_iload_n hx hb d_L_message_3 rfl (lv_at hl 1 rfl) ?_
  refine lv_iload_n hx hb d_L_message_4 rfl (lv_at hl 2 rfl) ?_
  have hPs := wk_sw (wa := [(q, .inl (cJ, 1, .inr (.inl f)))]) hP
  have hDs := wk_swD (wa := [(q, .inl (cJ, 1, .inr (.inl f)))]) hD
  have hF9 := wk_F (wk_LD hDs) hS hA
  refine cx_Vi (n := 2) [.int x, .int y] hC (t_T_message l D cM cG cI cJ o am ag pm pg off nm ng now F R _ x y hl0 t9 hI) ⟨kc_T_message, kn_T, k_L_46, ki_T_message, kv_T_message⟩ (by decide +kernel) ⟨rfl, rfl, Nat.le_of_ble_eq_true rfl, Nat.le_of_ble_eq_true rfl⟩ sx_X (yt_Y D cM cG cI cJ) hY (sx_k hXs hS hF9) (va_recv hK (wk_L hPs) (ci := 0) (q0 := 0) rfl rfl) (wk_L hPs) (wk_T (wk_LD hDs)) hS hF9 rfl hl.1 rfl (Nat.le_of_ble_eq_true rfl) d_L_message_5 ⟨Nat.le_of_ble_eq_true rfl, Nat.le_of_ble_eq_true rfl⟩ (fun E ce q9 t H1 locs1 hE hk1 hS1 hc1 hc2 hc3 => ?_) (fun r1 u H1 locs1 hw9 hP1 hD1 hz9 hk9 hS1 => ?_)
  · obtain ⟨rfl, hE1⟩ := hE
    clear hPs hDs hF9
    refine vx_catch (own := R_L) (name := "java/lang/IndexOutOfBoundsException") hown [] ⟨0, 10, 13, 41⟩ [] htab (fun z hz => nomatch hz) (by decide) (by decide) (htw _ k_L_41) (nx_use hY _ (by decide)) hc1 hc2 hc3 ?_
    have hP := va_P.kept hP (fun k x hx => hk1 _ (vx_lt hP hx))
    have hS := hS1
    clear hS1
    refine lv_astore (lv' := [(4, .ref q9), (0, .ref o), (1, .int x), (2, .int y), (3, .ref q)]) hx hb d_L_message_13 hl (by decide) rfl (fun ls hl => ?_)
    refine lv_iconst (v := 1) hx hb d_L_message_15 (by decide) ?_
    subst hAe
    refine W.widen (k := 1) (n := 6) (by decide) (by decide) ?_
    exact W.iret (v := 1) hx hb hr (fun t ht hW => ⟨⟨_, f, rfl, ⟨hE1.symm, fun z => absurd (hE1.symm.trans z) (by decide)⟩, by rw [ht]; exact hP, hD⟩, hS.F ht⟩) hS.2.2 d_L_message_16
  · obtain ⟨hP2, hD2⟩ := jn_L hPs hDs hk9 hF9 hP1 hD1
    have hP := wk_sw hP2
    have hD := wk_swD hD2
    have hS := hS1
    clear hS1 hP2 hD2 hP1 hD1
    refine lv_i2l (v := r1.toInt64) hx hb d_L_message_8 rfl ?_
    refine va_last hx hb hK hP hD hS 0 3 rfl rfl vi_01 d_L_message_9 (fun H locs hP hD hS => ?_)
    refine lv_goto (tgt := 17) hx hb d_L_message_10 (by decide) ?_
    refine lv_iconst (v := 0) hx hb d_L_message_17 (by decide) ?_
    subst hAe
    refine W.widen (k := 1) (n := 6) (by decide) (by decide) ?_
    exact W.iret (v := 0) hx hb hr (fun t ht hW => ⟨⟨_, (vp_updL f (0 : Int32).toNatClampNeg r1.toInt64), rfl, ⟨hw9.1.symm, fun _ => by rw [← hw9.2]; exact lg_u0 f _⟩, by rw [ht]; exact hP, hD⟩, hS.F ht⟩) hS.2.2 d_L_message_18
