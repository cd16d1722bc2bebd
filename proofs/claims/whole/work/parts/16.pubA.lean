set_option maxHeartbeats 4000000 in
set_option maxRecDepth 100000 in
theorem t_T_control (l : Launch) (D : va_G) (cM cG cI cJ : ClassId) (o am ag : Nat) (pm pg : Nat → Nat) (off : Int32) (nm ng : Nat) (now : Int32) (F : Nat → Nat → Int32) (R : Nat → Int32) (sz : Nat) (x : Int32) (y : Int32) (hl0 : l.stackTraces = false) (t9 : Nat) (hI : iv_S t9 (off, nm, ng, now, F, R)) : vx_Met l y_T_control (Cond.code y_T_control c_T_control 4 (some .int) :: tw_L) ({ frames := 6, cells := 1, slots := 7, locals := 86 } : Room) (mu_P D (ws_C cM cG o am ag pm pg (off, nm, ng, now, F, R)) sz (sx_P (va_A (ws_C cM cG o am ag pm pg (off, nm, ng, now, F, R)) sz)) (yt_P D cM cG cI cJ) [.ref o, .int x, .int y]) (va_Qi (fun (r : Int32) (_ : (Nat → Nat)) => (sp_co (off, nm, ng, now, F, R) x y).1 = 0 ∧ r = (sp_co (off, nm, ng, now, F, R) x y).2.1) (mu_B D (ws_C cM cG o am ag pm pg (off, nm, ng, now, F, R)) sz (fun pg1 => ws_C cM cG o am ag pm pg1 (sp_co (off, nm, ng, now, F, R) x y).2.2)) (va_A (ws_C cM cG o am ag pm pg (off, nm, ng, now, F, R)) sz)) (vx_X (fun _ : Unit => True) (fun E _ _ => E = "java/lang/IllegalArgumentException" ∧ (sp_co (off, nm, ng, now, F, R) x y).1 = 1) (fun q => sz ≤ q)) 1 7 (va_A (ws_C cM cG o am ag pm pg (off, nm, ng, now, F, R)) sz) := by
  refine vx_ofW (cc := c_T_control) (maxL := 4) (ret := (some .int)) (by decide) rfl ?_
  intro p e s m args below meth c s₁ B hml hne hv
  obtain ⟨rfl, hsz, hP, hD0, hX, hY⟩ := hv
  have hx := B.exec
  have hb := B.bytes
  have hr := B.returns
  have htw : ∀ w ∈ tw_L, w.before _ s = true := fun w hw => atoms_spec (ws := (Cond.code y_T_control c_T_control 4 (some .int) :: tw_L)) B.pre w (List.mem_cons_of_mem _ hw)
  have hown : s.vm.findClass R_T = some m.cls := findClass_of_methodNamed B.named
  have hlocks := B.notSynchronized
  have hC : CallFix p m c c_T_control 4 s _ tw_L R_T := ⟨hx, hb, hml, hown, htw⟩
  have hK := hY.1
  have hl := lv_entry ([.ref o, .int x, .int y]) (n := 4) (Nat.le_of_ble_eq_true rfl)
  rw [lg_entry_eq]
  generalize (lg_sl ([.ref o, .int x, .int y]) ++ List.replicate (4 - (lg_sl ([.ref o, .int x, .int y])).length) Slot.unset).toArray = ls at hl ⊢
  have hl : lv_has ls 4 [(0, .ref o), (1, .int x), (2, .int y)] := hl
  subst hsz
  obtain ⟨A, hAe⟩ : ∃ A : Nat → Prop, A = va_A (ws_C cM cG o am ag pm pg (off, nm, ng, now, F, R)) s.heap.size := ⟨_, rfl⟩
  have hD : va_D A (ws_C cM cG o am ag pm pg (off, nm, ng, now, F, R)) := by rw [hAe]; exact hD0.self
  have hA : ∀ q : Nat, s.heap.size ≤ q → A q := fun q h => by rw [hAe]; exact Or.inr h
  have hS : va_S A s.heap s.heap [] := va_S.rf
  have hXs : sx_P A s s.heap := by rw [hAe]; exact hX
  obtain ⟨hof, hn20, hnow, ht4, hM, hZ, hG, hcn⟩ := id hI
  have hg200 : ng ≤ 200 := by have := cn_0 hM hcn; omega
  refine lv_aload_n hx hb d_T_control_0 rfl (lv_at hl 0 rfl) ?_
  refine lv_iload_n hx hb d_T_control_1 rfl (lv_at hl 1 rfl) ?_
  refine cp_Q (n := 1) [.int x] hC (t_T_findMovement l D cM cG cI cJ o am ag pm pg off nm ng now F R x hn20) ⟨kc_T_findMovement, kn_T, k_T_66, ki_T_findMovement, kv_T_findMovement⟩ (by decide +kernel) ⟨rfl, rfl, Nat.le_of_ble_eq_true rfl, Nat.le_of_ble_eq_true rfl⟩ x_0 (yt_Y D cM cG cI cJ) hY hP (va_recv hK hP (ci := 0) (q0 := 0) rfl rfl) rfl hl.1 rfl (Nat.le_of_ble_eq_true rfl) d_T_control_2 ⟨Nat.le_of_ble_eq_true rfl, Nat.le_of_ble_eq_true rfl⟩ (fun r1 h2 => ?_)
  rcases h2 with ⟨i, hi, rfl, rfl⟩ | ⟨rfl, n3⟩
  · refine W.eq (g2 := F0 m 5 ls (.ref (pm i) :: [])) rfl ?_
    have hcl : (nI i).toNatClampNeg = i := nI_clamp (by omega)
    have hix : is_ix nm (nI i) := ix_nI (by omega) hi
    have hMi := hM i hi
    refine lv_astore_n (lv' := [(3, .ref (pm i)), (0, .ref o), (1, .int (nI i)), (2, .int y)]) hx hb d_T_control_5 rfl hl (by decide) rfl (fun ls hl => ?_)
    refine lv_aload_n hx hb d_T_control_6 rfl (lv_at hl 0 rfl) ?_
    refine lv_ifnull hx hb d_T_control_7 ?_
    refine lv_iload_n hx hb d_T_control_10 rfl (lv_at hl 3 rfl) ?_
    refine lv_iconst (v := 0) hx hb d_T_control_11 (by decide) ?_
    refine lv_sipush (v := 1000) hx hb d_T_control_12 (by decide) ?_
    refine cp_S (n := 3) [.int y, .int 0, .int 1000] hC (t_T_isWithin l D cM cG cI cJ y 0 1000) ⟨kc_T_isWithin, kn_T, k_T_45, ks_T_isWithin⟩ (by decide +kernel) ⟨rfl, rfl, Nat.le_of_ble_eq_true rfl, Nat.le_of_ble_eq_true rfl⟩ x_0 (yt_Y D cM cG cI cJ) hY trivial rfl hl.1 rfl (Nat.le_of_ble_eq_true rfl) d_T_control_15 ⟨Nat.le_of_ble_eq_true rfl, Nat.le_of_ble_eq_true rfl⟩ (fun r4 h5 => ?_)
    rcases h5 with ⟨rfl, b6⟩ | ⟨rfl, b6⟩
    · refine lv_if_ne (tgt := 31) hx hb d_T_control_18 (by decide) (fun _ => ?_) (fun q9 => absurd q9 (by decide))
      refine lv_aload_n hx hb d_T_control_31 rfl (lv_at hl 0 rfl) ?_
      refine cp_V (n := 0) [] hC (t_V_haveArrived l D cM cG cI cJ (pm i) F i) ⟨kc_V_haveArrived, kn_V, k_T_72, ki_V_haveArrived, kv_V_haveArrived⟩ (by decide +kernel) ⟨rfl, rfl, Nat.le_of_ble_eq_true rfl, Nat.le_of_ble_eq_true rfl⟩ x_0 (yt_Y D cM cG cI cJ) hY (wk_1 hP (mv_at hi)) (va_recv hK hP (ci := 1) (q0 := (i + 3)) rfl (mv_at hi)) rfl hl.1 rfl (Nat.le_of_ble_eq_true rfl) d_T_control_32 ⟨Nat.le_of_ble_eq_true rfl, Nat.le_of_ble_eq_true rfl⟩ (fun r7 h8 => ?_)
      rcases h8 with ⟨rfl, b9⟩ | ⟨rfl, b9⟩
      · have b9 : ¬ (F 6 i) = -1 := b9
        refine lv_if_eq (tgt := 45) hx hb d_T_control_35 (by decide) (fun q9 => absurd q9 (by decide)) (fun _ => ?_)
        refine lv_aload_n hx hb d_T_control_38 rfl (lv_at hl 0 rfl) ?_
        refine cp_V (n := 0) [] hC (t_V_wereControlled l D cM cG cI cJ (pm i) F i) ⟨kc_V_wereControlled, kn_V, k_T_104, ki_V_wereControlled, kv_V_wereControlled⟩ (by decide +kernel) ⟨rfl, rfl, Nat.le_of_ble_eq_true rfl, Nat.le_of_ble_eq_true rfl⟩ x_0 (yt_Y D cM cG cI cJ) hY (wk_1 hP (mv_at hi)) (va_recv hK hP (ci := 1) (q0 := (i + 3)) rfl (mv_at hi)) rfl hl.1 rfl (Nat.le_of_ble_eq_true rfl) d_T_control_39 ⟨Nat.le_of_ble_eq_true rfl, Nat.le_of_ble_eq_true rfl⟩ (fun r10 h11 => ?_)
        rcases h11 with ⟨rfl, b12⟩ | ⟨rfl, b12⟩
        · have b12 : ¬ (F 9 i) = -1 := b12
          refine lv_if_eq (tgt := 47) hx hb d_T_control_42 (by decide) (fun q9 => absurd q9 (by decide)) (fun _ => ?_)
          refine lv_iconst (v := 0) hx hb d_T_control_45 (by decide) ?_
          subst hAe
          have e_S : sp_co (off, nm, ng, now, F, R) (nI i) y = (0, 0, (off, nm, ng, now, F, R)) := by simp only [sp_co, hcl]; rw [if_pos ⟨hix, b6⟩, if_pos (Or.inr b12)]
          refine vx_ret ?_
          refine W.widen (k := 1) (n := 7) (by decide) (by decide) ?_
          exact W.iret (v := 0) hx hb hr (fun t ht hW => ⟨⟨_, pg, rfl, ⟨by rw [e_S], by rw [e_S]⟩, by rw [ht, e_S]; exact hP, by rw [e_S]; exact hD⟩, hS.F ht⟩) hS.2.2 d_T_control_46
        · have b12 : (F 9 i) = -1 := b12
          refine lv_if_eq (tgt := 47) hx hb d_T_control_42 (by decide) (fun _ => ?_) (fun q9 => absurd rfl q9)
          refine lv_aload_n hx hb d_T_control_47 rfl (lv_at hl 0 rfl) ?_
          refine lv_iload_n hx hb d_T_control_48 rfl (lv_at hl 3 rfl) ?_
          refine va_put (D := D) (ci := 1) (v := .int y) (ty := .int) (C := R_V) (T := F_V) (N := 19) hx hb htw uw_V ft_V tk_V n_V hown hK hP hD hS (i + 3) (mv_at hi) rfl 9 (by decide) (htw _ k_T_107) (fun _ h9 => h9) rfl (by decide +kernel) rfl rfl (Nat.le_of_ble_eq_true rfl) d_T_control_49 (fun H locs hP hD hS => ?_)
          rw [mv_put hi (by decide)] at hP hD
          have hP : va_P D cl_L (ws_C cM cG o am ag pm pg (off, nm, ng, now, up_F F 9 i y, R)) H := hP
          have hD : va_D A (ws_C cM cG o am ag pm pg (off, nm, ng, now, up_F F 9 i y, R)) := hD
          refine lv_aload_n hx hb d_T_control_52 rfl (lv_at hl 1 rfl) ?_
          refine lv_iload_n hx hb d_T_control_53 rfl (lv_at hl 2 rfl) ?_
          refine lv_aload_n hx hb d_T_control_54 rfl (lv_at hl 0 rfl) ?_
          have hF9 := wk_F hD hS hA
          refine cm_V (n := 2) [.int (nI i), .ref (pm i)] hC (t_T_sendResult l D cM cG cI cJ o am ag pm pg off nm ng now (up_F F 9 i y) R _ (nI i) i hi (show ng < 200 by have := cn_co hM hcn hi b12; omega)) ⟨kc_T_sendResult, kn_T, k_T_110, ki_T_sendResult, kv_T_sendResult⟩ (by decide +kernel) ⟨rfl, rfl, Nat.le_of_ble_eq_true rfl, Nat.le_of_ble_eq_true rfl⟩ x_0 (yt_Y D cM cG cI cJ) hY trivial (va_recv hK hP (ci := 0) (q0 := 0) rfl rfl) hP (wk_T hD) hS hF9 rfl hl.1 rfl (Nat.le_of_ble_eq_true rfl) d_T_control_55 ⟨Nat.le_of_ble_eq_true rfl, Nat.le_of_ble_eq_true rfl⟩ (fun pg13 H locs hw9 hP1 hD1 hz9 hk9 hS => ?_)
          have e_R9 : sn_R R ng 3 (nI i) ((up_F F 9 i y) 6 i) ((up_F F 9 i y) 0 i) ((up_F F 9 i y) 9 i) ((up_F F 9 i y) 7 i) = sn_R R ng 3 (nI i) (F 6 i) (F 0 i) y (F 7 i) := by simp [up_at]
          rw [e_R9] at hP1 hD1
          have hP : va_P D cl_L (ws_C cM cG o am ag pm pg13 (off, nm, ng + 1, now, up_F F 9 i y, sn_R R ng 3 (nI i) (F 6 i) (F 0 i) y (F 7 i))) H := hP1
          have hD : va_D A (ws_C cM cG o am ag pm pg13 (off, nm, ng + 1, now, up_F F 9 i y, sn_R R ng 3 (nI i) (F 6 i) (F 0 i) y (F 7 i))) := wk_D hD1 hF9
          refine lv_iconst (v := 1) hx hb d_T_control_58 (by decide) ?_
          subst hAe
          have e_S : sp_co (off, nm, ng, now, F, R) (nI i) y = (0, 1, (off, nm, ng + 1, now, up_F F 9 i y, sn_R R ng 3 (nI i) (F 6 i) (F 0 i) y (F 7 i))) := by simp only [sp_co, hcl]; rw [if_pos ⟨hix, b6⟩, if_neg (fun q => q.elim b9 (fun z => z b12))]
          refine vx_ret ?_
          refine W.widen (k := 1) (n := 7) (by decide) (by decide) ?_
          exact W.iret (v := 1) hx hb hr (fun t ht hW => ⟨⟨_, pg13, rfl, ⟨by rw [e_S], by rw [e_S]⟩, by rw [ht, e_S]; exact hP, by rw [e_S]; exact hD⟩, hS.F ht⟩) hS.2.2 d_T_control_59
      · have b9 : (F 6 i) = -1 := b9
        refine lv_if_eq (tgt := 45) hx hb d_T_control_35 (by decide) (fun _ => ?_) (fun q9 => absurd rfl q9)
        refine lv_iconst (v := 0) hx hb d_T_control_45 (by decide) ?_
        subst hAe
        have e_S : sp_co (off, nm, ng, now, F, R) (nI i) y = (0, 0, (off, nm, ng, now, F, R)) := by simp only [sp_co, hcl]; rw [if_pos ⟨hix, b6⟩, if_pos (Or.inl b9)]
        refine vx_ret ?_
        refine W.widen (k := 1) (n := 7) (by decide) (by decide) ?_
        exact W.iret (v := 0) hx hb hr (fun t ht hW => ⟨⟨_, pg, rfl, ⟨by rw [e_S], by rw [e_S]⟩, by rw [ht, e_S]; exact hP, by rw [e_S]; exact hD⟩, hS.F ht⟩) hS.2.2 d_T_control_46
    · refine lv_if_ne (tgt := 31) hx hb d_T_control_18 (by decide) (fun q9 => absurd rfl q9) (fun _ => ?_)
      obtain ⟨sa9, hsa9⟩ := hY.2.2.2.1 (102, "no such movement, or found can't be") (by decide)
      have e_S : sp_co (off, nm, ng, now, F, R) (nI i) y = (1, 0, (off, nm, ng, now, F, R)) := by simp only [sp_co]; rw [if_neg (fun q => b6 q.2)]
      exact vx_throwS (A := A) hx hb hl0 hown (by decide +kernel) (by decide +kernel) (htw _ k_T_38) (htw _ kn_IllegalArgumentException) hsa9 (at_IllegalArgumentException htw hY) ag_IllegalArgumentException hXs.1 hXs.2 hS (hl.1.trans hml.symm) d_T_control_21 d_T_control_24 d_T_control_25 d_T_control_27 d_T_control_30 (fun x hx9 => (hne x hx9).elim) (Nat.le_of_ble_eq_true rfl) (Nat.le_of_ble_eq_true rfl) (Nat.le_of_ble_eq_true rfl) (Nat.le_of_ble_eq_true rfl) hlocks (fun t ht1 ht2 ht3 => ⟨(), trivial, ⟨rfl, by rw [e_S]⟩, ht2, fun q h1 _ => ht3 q h1⟩) (fun z hz => nomatch hz) (Nat.le_of_ble_eq_true rfl) (Nat.le_of_ble_eq_true rfl)
  · refine W.eq (g2 := F0 m 5 ls (.null :: [])) rfl ?_
    refine lv_astore_nN (lv' := [(3, .null), (0, .ref o), (1, .int x), (2, .int y)]) hx hb d_T_control_5 rfl hl (by decide) rfl (fun ls hl => ?_)
    refine lv_aload_nN hx hb d_T_control_6 rfl (lv_at hl 0 rfl) ?_
    refine lv_ifnullN (tgt := 21) hx hb d_T_control_7 (by decide) ?_
    obtain ⟨sa9, hsa9⟩ := hY.2.2.2.1 (102, "no such movement, or found can't be") (by decide)
    have e_S : sp_co (off, nm, ng, now, F, R) x y = (1, 0, (off, nm, ng, now, F, R)) := by simp only [sp_co]; rw [if_neg (fun q => n3 q.1)]
    exact vx_throwS (A := A) hx hb hl0 hown (by decide +kernel) (by decide +kernel) (htw _ k_T_38) (htw _ kn_IllegalArgumentException) hsa9 (at_IllegalArgumentException htw hY) ag_IllegalArgumentException hXs.1 hXs.2 hS (hl.1.trans hml.symm) d_T_control_21 d_T_control_24 d_T_control_25 d_T_control_27 d_T_control_30 (fun x hx9 => (hne x hx9).elim) (Nat.le_of_ble_eq_true rfl) (Nat.le_of_ble_eq_true rfl) (Nat.le_of_ble_eq_true rfl) (Nat.le_of_ble_eq_true rfl) hlocks (fun t ht1 ht2 ht3 => ⟨(), trivial, ⟨rfl, by rw [e_S]⟩, ht2, fun q h1 _ => ht3 q h1⟩) (fun z hz => nomatch hz) (Nat.le_of_ble_eq_true rfl) (Nat.le_of_ble_eq_true rfl)
set_option maxHeartbeats 4000000 in
set_option maxRecDepth 100000 in
theorem t_T_discharge (l : Launch) (D : va_G) (cM cG cI cJ : ClassId) (o am ag : Nat) (pm pg : Nat → Nat) (off : Int32) (nm ng : Nat) (now : Int32) (F : Nat → Nat → Int32) (R : Nat → Int32) (sz : Nat) (x : Int32) (y : Int32) (hl0 : l.stackTraces = false) (t9 : Nat) (hI : iv_S t9 (off, nm, ng, now, F, R)) : vx_Met l y_T_discharge (Cond.code y_T_discharge c_T_discharge 4 (some .int) :: tw_L) ({ frames := 6, cells := 1, slots := 6, locals := 82 } : Room) (mu_P D (ws_C cM cG o am ag pm pg (off, nm, ng, now, F, R)) sz (sx_P (va_A (ws_C cM cG o am ag pm pg (off, nm, ng, now, F, R)) sz)) (yt_P D cM cG cI cJ) [.ref o, .int x, .int y]) (va_Qi (fun (r : Int32) (_ : (Nat → Nat)) => (sp_di (off, nm, ng, now, F, R) x y).1 = 0 ∧ r = (sp_di (off, nm, ng, now, F, R) x y).2.1) (mu_B D (ws_C cM cG o am ag pm pg (off, nm, ng, now, F, R)) sz (fun pg1 => ws_C cM cG o am ag pm pg1 (sp_di (off, nm, ng, now, F, R) x y).2.2)) (va_A (ws_C cM cG o am ag pm pg (off, nm, ng, now, F, R)) sz)) (vx_X (fun _ : Unit => True) (fun E _ _ => E = "java/lang/IllegalArgumentException" ∧ (sp_di (off, nm, ng, now, F, R) x y).1 = 1) (fun q => sz ≤ q)) 1 6 (va_A (ws_C cM cG o am ag pm pg (off, nm, ng, now, F, R)) sz) := by
  refine vx_ofW (cc := c_T_discharge) (maxL := 4) (ret := (some .int)) (by decide) rfl ?_
  intro p e s m args below meth c s₁ B hml hne hv
  obtain ⟨rfl, hsz, hP, hD0, hX, hY⟩ := hv
  have hx := B.exec
  have hb := B.bytes
  have hr := B.returns
  have htw : ∀ w ∈ tw_L, w.before _ s = true := fun w hw => atoms_spec (ws := (Cond.code y_T_discharge c_T_discharge 4 (some .int) :: tw_L)) B.pre w (List.mem_cons_of_mem _ hw)
  have hown : s.vm.findClass R_T = some m.cls := findClass_of_methodNamed B.named
  have hlocks := B.notSynchronized
  have hC : CallFix p m c c_T_discharge 4 s _ tw_L R_T := ⟨hx, hb, hml, hown, htw⟩
  have hK := hY.1
  have hl := lv_entry ([.ref o, .int x, .int y]) (n := 4) (Nat.le_of_ble_eq_true rfl)
  rw [lg_entry_eq]
  generalize (lg_sl ([.ref o, .int x, .int y]) ++ List.replicate (4 - (lg_sl ([.ref o, .int x, .int y])).length) Slot.unset).toArray = ls at hl ⊢
  have hl : lv_has ls 4 [(0, .ref o), (1, .int x), (2, .int y)] := hl
  subst hsz
  obtain ⟨A, hAe⟩ : ∃ A : Nat → Prop, A = va_A (ws_C cM cG o am ag pm pg (off, nm, ng, now, F, R)) s.heap.size := ⟨_, rfl⟩
  have hD : va_D A (ws_C cM cG o am ag pm pg (off, nm, ng, now, F, R)) := by rw [hAe]; exact hD0.self
  have hA : ∀ q : Nat, s.heap.size ≤ q → A q := fun q h => by rw [hAe]; exact Or.inr h
  have hS : va_S A s.heap s.heap [] := va_S.rf
  have hXs : sx_P A s s.heap := by rw [hAe]; exact hX
  obtain ⟨hof, hn20, hnow, ht4, hM, hZ, hG, hcn⟩ := id hI
  have hg200 : ng ≤ 200 := by have := cn_0 hM hcn; omega
  refine lv_aload_n hx hb d_T_discharge_0 rfl (lv_at hl 0 rfl) ?_
  refine lv_iload_n hx hb d_T_discharge_1 rfl (lv_at hl 1 rfl) ?_
  refine cp_Q (n := 1) [.int x] hC (t_T_findMovement l D cM cG cI cJ o am ag pm pg off nm ng now F R x hn20) ⟨kc_T_findMovement, kn_T, k_T_66, ki_T_findMovement, kv_T_findMovement⟩ (by decide +kernel) ⟨rfl, rfl, Nat.le_of_ble_eq_true rfl, Nat.le_of_ble_eq_true rfl⟩ x_0 (yt_Y D cM cG cI cJ) hY hP (va_recv hK hP (ci := 0) (q0 := 0) rfl rfl) rfl hl.1 rfl (Nat.le_of_ble_eq_true rfl) d_T_discharge_2 ⟨Nat.le_of_ble_eq_true rfl, Nat.le_of_ble_eq_true rfl⟩ (fun r1 h2 => ?_)
  rcases h2 with ⟨i, hi, rfl, rfl⟩ | ⟨rfl, n3⟩
  · refine W.eq (g2 := F0 m 5 ls (.ref (pm i) :: [])) rfl ?_
    have hcl : (nI i).toNatClampNeg = i := nI_clamp (by omega)
    have hix : is_ix nm (nI i) := ix_nI (by omega) hi
    have hMi := hM i hi
    refine lv_astore_n (lv' := [(3, .ref (pm i)), (0, .ref o), (1, .int (nI i)), (2, .int y)]) hx hb d_T_discharge_5 rfl hl (by decide) rfl (fun ls hl => ?_)
    refine lv_aload_n hx hb d_T_discharge_6 rfl (lv_at hl 0 rfl) ?_
    refine lv_ifnull hx hb d_T_discharge_7 ?_
    refine lv_iload_n hx hb d_T_discharge_10 rfl (lv_at hl 3 rfl) ?_
    refine lv_iconst (v := 1) hx hb d_T_discharge_11 (by decide) ?_
    refine lv_icmp_ge (tgt := 25) hx hb d_T_discharge_12 (by decide) (fun c4 => ?_) (fun c4 => ?_)
    · refine lv_aload_n hx hb d_T_discharge_25 rfl (lv_at hl 0 rfl) ?_
      refine va_get (D := D) (C := R_V) (T := F_V) (N := 19) hx hb htw uw_V hown hK hP (i + 3) (mv_at hi) rfl 10 (by decide) (htw _ k_T_79) (fun _ h9 => h9) rfl d_T_discharge_26 ?_
      refine lv_iconst (v := 3) hx hb d_T_discharge_29 (by decide) ?_
      refine lv_icmp_ne (tgt := 41) hx hb d_T_discharge_30 (by decide) (fun c5 => ?_) (fun c5 => ?_)
      · refine lv_iconst (v := (-1)) hx hb d_T_discharge_41 (by decide) ?_
        subst hAe
        have e_S : sp_di (off, nm, ng, now, F, R) (nI i) y = (0, (-1), (off, nm, ng, now, F, R)) := by simp only [sp_di, hcl]; rw [if_pos ⟨hix, Int32.not_lt.mpr c4⟩, if_pos (Or.inl c5)]
        refine vx_ret ?_
        refine W.widen (k := 1) (n := 6) (by decide) (by decide) ?_
        exact W.iret (v := (-1)) hx hb hr (fun t ht hW => ⟨⟨_, pg, rfl, ⟨by rw [e_S], by rw [e_S]⟩, by rw [ht, e_S]; exact hP, by rw [e_S]; exact hD⟩, hS.F ht⟩) hS.2.2 d_T_discharge_42
      · refine lv_iload_n hx hb d_T_discharge_33 rfl (lv_at hl 3 rfl) ?_
        refine lv_aload_n hx hb d_T_discharge_34 rfl (lv_at hl 0 rfl) ?_
        refine cp_V (n := 0) [] hC (t_V_piecesLeft l D cM cG cI cJ (pm i) F i) ⟨kc_V_piecesLeft, kn_V, k_T_143, ki_V_piecesLeft, kv_V_piecesLeft⟩ (by decide +kernel) ⟨rfl, rfl, Nat.le_of_ble_eq_true rfl, Nat.le_of_ble_eq_true rfl⟩ x_0 (yt_Y D cM cG cI cJ) hY (wk_1 hP (mv_at hi)) (va_recv hK hP (ci := 1) (q0 := (i + 3)) rfl (mv_at hi)) rfl hl.1 rfl (Nat.le_of_ble_eq_true rfl) d_T_discharge_35 ⟨Nat.le_of_ble_eq_true rfl, Nat.le_of_ble_eq_true rfl⟩ (fun r6 h7 => ?_)
        subst h7
        refine lv_icmp_le (tgt := 43) hx hb d_T_discharge_38 (by decide) (fun c8 => ?_) (fun c8 => ?_)
        · refine lv_aload_n hx hb d_T_discharge_43 rfl (lv_at hl 0 rfl) ?_
          refine lv_dup hx hb d_T_discharge_44 rfl ?_
          refine va_get (D := D) (C := R_V) (T := F_V) (N := 19) hx hb htw uw_V hown hK hP (i + 3) (mv_at hi) rfl 11 (by decide) (htw _ k_T_147) (fun _ h9 => h9) rfl d_T_discharge_45 ?_
          refine lv_iload_n hx hb d_T_discharge_48 rfl (lv_at hl 3 rfl) ?_
          refine lv_iadd hx hb d_T_discharge_49 ?_
          refine va_put (D := D) (ci := 1) (v := .int ((F 11 i) + y)) (ty := .int) (C := R_V) (T := F_V) (N := 19) hx hb htw uw_V ft_V tk_V n_V hown hK hP hD hS (i + 3) (mv_at hi) rfl 11 (by decide) (htw _ k_T_147) (fun _ h9 => h9) rfl (by decide +kernel) rfl rfl (Nat.le_of_ble_eq_true rfl) d_T_discharge_50 (fun H locs hP hD hS => ?_)
          rw [mv_put hi (by decide)] at hP hD
          have hP : va_P D cl_L (ws_C cM cG o am ag pm pg (off, nm, ng, now, up_F F 11 i ((F 11 i) + y), R)) H := hP
          have hD : va_D A (ws_C cM cG o am ag pm pg (off, nm, ng, now, up_F F 11 i ((F 11 i) + y), R)) := hD
          refine lv_aload_n hx hb d_T_discharge_53 rfl (lv_at hl 0 rfl) ?_
          refine cp_V (n := 0) [] hC (t_V_piecesLeft l D cM cG cI cJ (pm i) (up_F F 11 i ((F 11 i) + y)) i) ⟨kc_V_piecesLeft, kn_V, k_T_143, ki_V_piecesLeft, kv_V_piecesLeft⟩ (by decide +kernel) ⟨rfl, rfl, Nat.le_of_ble_eq_true rfl, Nat.le_of_ble_eq_true rfl⟩ x_0 (yt_Y D cM cG cI cJ) hY (wk_1 hP (mv_at hi)) (va_recv hK hP (ci := 1) (q0 := (i + 3)) rfl (mv_at hi)) rfl hl.1 rfl (Nat.le_of_ble_eq_true rfl) d_T_discharge_54 ⟨Nat.le_of_ble_eq_true rfl, Nat.le_of_ble_eq_true rfl⟩ (fun r9 h10 => ?_)
          subst h10
          refine sk_as (y := (F 4 i) - ((F 11 i) + y)) (by simp [up_at]) ?_
          refine lv_if_ne (tgt := 66) hx hb d_T_discharge_57 (by decide) (fun c11 => ?_) (fun c11 => ?_)
          · refine lv_aload_n hx hb d_T_discharge_66 rfl (lv_at hl 0 rfl) ?_
            refine cp_V (n := 0) [] hC (t_V_piecesLeft l D cM cG cI cJ (pm i) (up_F F 11 i ((F 11 i) + y)) i) ⟨kc_V_piecesLeft, kn_V, k_T_143, ki_V_piecesLeft, kv_V_piecesLeft⟩ (by decide +kernel) ⟨rfl, rfl, Nat.le_of_ble_eq_true rfl, Nat.le_of_ble_eq_true rfl⟩ x_0 (yt_Y D cM cG cI cJ) hY (wk_1 hP (mv_at hi)) (va_recv hK hP (ci := 1) (q0 := (i + 3)) rfl (mv_at hi)) rfl hl.1 rfl (Nat.le_of_ble_eq_true rfl) d_T_discharge_67 ⟨Nat.le_of_ble_eq_true rfl, Nat.le_of_ble_eq_true rfl⟩ (fun r12 h13 => ?_)
            subst h13
            refine sk_as (y := (F 4 i) - ((F 11 i) + y)) (by simp [up_at]) ?_
            subst hAe
            have e_S : sp_di (off, nm, ng, now, F, R) (nI i) y = (0, ((F 4 i) - ((F 11 i) + y)), (off, nm, ng, now, up_F F 11 i ((F 11 i) + y), R)) := by simp only [sp_di, hcl]; rw [if_pos ⟨hix, Int32.not_lt.mpr c4⟩, if_neg (fun q => q.elim (fun z => z c5) (fun z => Int32.not_lt.mpr c8 z)), if_neg c11]
            refine vx_ret ?_
            refine W.widen (k := 1) (n := 6) (by decide) (by decide) ?_
            exact W.iret (v := ((F 4 i) - ((F 11 i) + y))) hx hb hr (fun t ht hW => ⟨⟨_, pg, rfl, ⟨by rw [e_S], by rw [e_S]⟩, by rw [ht, e_S]; exact hP, by rw [e_S]; exact hD⟩, hS.F ht⟩) hS.2.2 d_T_discharge_70
          · refine lv_aload_n hx hb d_T_discharge_60 rfl (lv_at hl 0 rfl) ?_
            refine lv_bipush (v := 6) hx hb d_T_discharge_61 (by decide) ?_
            refine va_put (D := D) (ci := 1) (v := .int 6) (ty := .int) (C := R_V) (T := F_V) (N := 19) hx hb htw uw_V ft_V tk_V n_V hown hK hP hD hS (i + 3) (mv_at hi) rfl 10 (by decide) (htw _ k_T_79) (fun _ h9 => h9) rfl (by decide +kernel) rfl rfl (Nat.le_of_ble_eq_true rfl) d_T_discharge_63 (fun H locs hP hD hS => ?_)
            rw [mv_put hi (by decide)] at hP hD
            have hP : va_P D cl_L (ws_C cM cG o am ag pm pg (off, nm, ng, now, up_F (up_F F 11 i ((F 11 i) + y)) 10 i 6, R)) H := hP
            have hD : va_D A (ws_C cM cG o am ag pm pg (off, nm, ng, now, up_F (up_F F 11 i ((F 11 i) + y)) 10 i 6, R)) := hD
            refine lv_aload_n hx hb d_T_discharge_66 rfl (lv_at hl 0 rfl) ?_
            refine cp_V (n := 0) [] hC (t_V_piecesLeft l D cM cG cI cJ (pm i) (up_F (up_F F 11 i ((F 11 i) + y)) 10 i 6) i) ⟨kc_V_piecesLeft, kn_V, k_T_143, ki_V_piecesLeft, kv_V_piecesLeft⟩ (by decide +kernel) ⟨rfl, rfl, Nat.le_of_ble_eq_true rfl, Nat.le_of_ble_eq_true rfl⟩ x_0 (yt_Y D cM cG cI cJ) hY (wk_1 hP (mv_at hi)) (va_recv hK hP (ci := 1) (q0 := (i + 3)) rfl (mv_at hi)) rfl hl.1 rfl (Nat.le_of_ble_eq_true rfl) d_T_discharge_67 ⟨Nat.le_of_ble_eq_true rfl, Nat.le_of_ble_eq_true rfl⟩ (fun r14 h15 => ?_)
            subst h15
            refine sk_as (y := (F 4 i) - ((F 11 i) + y)) (by simp [up_at]) ?_
            subst hAe
            have e_S : sp_di (off, nm, ng, now, F, R) (nI i) y = (0, ((F 4 i) - ((F 11 i) + y)), (off, nm, ng, now, up_F (up_F F 11 i ((F 11 i) + y)) 10 i 6, R)) := by simp only [sp_di, hcl]; rw [if_pos ⟨hix, Int32.not_lt.mpr c4⟩, if_neg (fun q => q.elim (fun z => z c5) (fun z => Int32.not_lt.mpr c8 z)), if_pos c11]
            refine vx_ret ?_
            refine W.widen (k := 1) (n := 6) (by decide) (by decide) ?_
            exact W.iret (v := ((F 4 i) - ((F 11 i) + y))) hx hb hr (fun t ht hW => ⟨⟨_, pg, rfl, ⟨by rw [e_S], by rw [e_S]⟩, by rw [ht, e_S]; exact hP, by rw [e_S]; exact hD⟩, hS.F ht⟩) hS.2.2 d_T_discharge_70
        · refine lv_iconst (v := (-1)) hx hb d_T_discharge_41 (by decide) ?_
          subst hAe
          have e_S : sp_di (off, nm, ng, now, F, R) (nI i) y = (0, (-1), (off, nm, ng, now, F, R)) := by simp only [sp_di, hcl]; rw [if_pos ⟨hix, Int32.not_lt.mpr c4⟩, if_pos (Or.inr (Int32.not_le.mp c8))]
          refine vx_ret ?_
          refine W.widen (k := 1) (n := 6) (by decide) (by decide) ?_
          exact W.iret (v := (-1)) hx hb hr (fun t ht hW => ⟨⟨_, pg, rfl, ⟨by rw [e_S], by rw [e_S]⟩, by rw [ht, e_S]; exact hP, by rw [e_S]; exact hD⟩, hS.F ht⟩) hS.2.2 d_T_discharge_42
    · obtain ⟨sa9, hsa9⟩ := hY.2.2.2.1 (141, "no such movement, or n is below 1") (by decide)
      have e_S : sp_di (off, nm, ng, now, F, R) (nI i) y = (1, 0, (off, nm, ng, now, F, R)) := by simp only [sp_di]; rw [if_neg (fun q => c4 (Int32.not_lt.mp q.2))]
      exact vx_throwS (A := A) hx hb hl0 hown (by decide +kernel) (by decide +kernel) (htw _ k_T_38) (htw _ kn_IllegalArgumentException) hsa9 (at_IllegalArgumentException htw hY) ag_IllegalArgumentException hXs.1 hXs.2 hS (hl.1.trans hml.symm) d_T_discharge_15 d_T_discharge_18 d_T_discharge_19 d_T_discharge_21 d_T_discharge_24 (fun x hx9 => (hne x hx9).elim) (Nat.le_of_ble_eq_true rfl) (Nat.le_of_ble_eq_true rfl) (Nat.le_of_ble_eq_true rfl) (Nat.le_of_ble_eq_true rfl) hlocks (fun t ht1 ht2 ht3 => ⟨(), trivial, ⟨rfl, by rw [e_S]⟩, ht2, fun q h1 _ => ht3 q h1⟩) (fun z hz => nomatch hz) (Nat.le_of_ble_eq_true rfl) (Nat.le_of_ble_eq_true rfl)
  · refine W.eq (g2 := F0 m 5 ls (.null :: [])) rfl ?_
    refine lv_astore_nN (lv' := [(3, .null), (0, .ref o), (1, .int x), (2, .int y)]) hx hb d_T_discharge_5 rfl hl (by decide) rfl (fun ls hl => ?_)
    refine lv_aload_nN hx hb d_T_discharge_6 rfl (lv_at hl 0 rfl) ?_
    refine lv_ifnullN (tgt := 15) hx hb d_T_discharge_7 (by decide) ?_
    obtain ⟨sa9, hsa9⟩ := hY.2.2.2.1 (141, "no such movement, or n is below 1") (by decide)
    have e_S : sp_di (off, nm, ng, now, F, R) x y = (1, 0, (off, nm, ng, now, F, R)) := by simp only [sp_di]; rw [if_neg (fun q => n3 q.1)]
    exact vx_throwS (A := A) hx hb hl0 hown (by decide +kernel) (by decide +kernel) (htw _ k_T_38) (htw _ kn_IllegalArgumentException) hsa9 (at_IllegalArgumentException htw hY) ag_IllegalArgumentException hXs.1 hXs.2 hS (hl.1.trans hml.symm) d_T_discharge_15 d_T_discharge_18 d_T_discharge_19 d_T_discharge_21 d_T_discharge_24 (fun x hx9 => (hne x hx9).elim) (Nat.le_of_ble_eq_true rfl) (Nat.le_of_ble_eq_true rfl) (Nat.le_of_ble_eq_true rfl) (Nat.le_of_ble_eq_true rfl) hlocks (fun t ht1 ht2 ht3 => ⟨(), trivial, ⟨rfl, by rw [e_S]⟩, ht2, fun q h1 _ => ht3 q h1⟩) (fun z hz => nomatch hz) (Nat.le_of_ble_eq_true rfl) (Nat.le_of_ble_eq_true rfl)
set_option maxHeartbeats 4000000 in
set_option maxRecDepth 100000 in
theorem t_T_proof (l : Launch) (D : va_G) (cM cG cI cJ : ClassId) (o am ag : Nat) (pm pg : Nat → Nat) (off : Int32) (nm ng : Nat) (now : Int32) (F : Nat → Nat → Int32) (R : Nat → Int32) (sz : Nat) (x : Int32) (hl0 : l.stackTraces = false) (t9 : Nat) (hI : iv_S t9 (off, nm, ng, now, F, R)) : vx_Met l y_T_proof (Cond.code y_T_proof c_T_proof 3 (some .int) :: tw_L) ({ frames := 6, cells := 1, slots := 6, locals := 82 } : Room) (mu_P D (ws_C cM cG o am ag pm pg (off, nm, ng, now, F, R)) sz (sx_P (va_A (ws_C cM cG o am ag pm pg (off, nm, ng, now, F, R)) sz)) (yt_P D cM cG cI cJ) [.ref o, .int x]) (va_Qi (fun (r : Int32) (_ : (Nat → Nat)) => (sp_pr (off, nm, ng, now, F, R) x).1 = 0 ∧ r = (sp_pr (off, nm, ng, now, F, R) x).2.1) (mu_B D (ws_C cM cG o am ag pm pg (off, nm, ng, now, F, R)) sz (fun pg1 => ws_C cM cG o am ag pm pg1 (sp_pr (off, nm, ng, now, F, R) x).2.2)) (va_A (ws_C cM cG o am ag pm pg (off, nm, ng, now, F, R)) sz)) (vx_X (fun _ : Unit => True) (fun E _ _ => E = "java/lang/IllegalArgumentException" ∧ (sp_pr (off, nm, ng, now, F, R) x).1 = 1) (fun q => sz ≤ q)) 1 6 (va_A (ws_C cM cG o am ag pm pg (off, nm, ng, now, F, R)) sz) := by
  refine vx_ofW (cc := c_T_proof) (maxL := 3) (ret := (some .int)) (by decide) rfl ?_
  intro p e s m args below meth c s₁ B hml hne hv
  obtain ⟨rfl, hsz, hP, hD0, hX, hY⟩ := hv
  have hx := B.exec
  have hb := B.bytes
  have hr := B.returns
  have htw : ∀ w ∈ tw_L, w.before _ s = true := fun w hw => atoms_spec (ws := (Cond.code y_T_proof c_T_proof 3 (some .int) :: tw_L)) B.pre w (List.mem_cons_of_mem _ hw)
  have hown : s.vm.findClass R_T = some m.cls := findClass_of_methodNamed B.named
  have hlocks := B.notSynchronized
  have hC : CallFix p m c c_T_proof 3 s _ tw_L R_T := ⟨hx, hb, hml, hown, htw⟩
  have hK := hY.1
  have hl := lv_entry ([.ref o, .int x]) (n := 3) (Nat.le_of_ble_eq_true rfl)
  rw [lg_entry_eq]
  generalize (lg_sl ([.ref o, .int x]) ++ List.replicate (3 - (lg_sl ([.ref o, .int x])).length) Slot.unset).toArray = ls at hl ⊢
  have hl : lv_has ls 3 [(0, .ref o), (1, .int x)] := hl
  subst hsz
  obtain ⟨A, hAe⟩ : ∃ A : Nat → Prop, A = va_A (ws_C cM cG o am ag pm pg (off, nm, ng, now, F, R)) s.heap.size := ⟨_, rfl⟩
  have hD : va_D A (ws_C cM cG o am ag pm pg (off, nm, ng, now, F, R)) := by rw [hAe]; exact hD0.self
  have hA : ∀ q : Nat, s.heap.size ≤ q → A q := fun q h => by rw [hAe]; exact Or.inr h
  have hS : va_S A s.heap s.heap [] := va_S.rf
  have hXs : sx_P A s s.heap := by rw [hAe]; exact hX
  obtain ⟨hof, hn20, hnow, ht4, hM, hZ, hG, hcn⟩ := id hI
  have hg200 : ng ≤ 200 := by have := cn_0 hM hcn; omega
  refine lv_aload_n hx hb d_T_proof_0 rfl (lv_at hl 0 rfl) ?_
  refine lv_iload_n hx hb d_T_proof_1 rfl (lv_at hl 1 rfl) ?_
  refine cp_Q (n := 1) [.int x] hC (t_T_findMovement l D cM cG cI cJ o am ag pm pg off nm ng now F R x hn20) ⟨kc_T_findMovement, kn_T, k_T_66, ki_T_findMovement, kv_T_findMovement⟩ (by decide +kernel) ⟨rfl, rfl, Nat.le_of_ble_eq_true rfl, Nat.le_of_ble_eq_true rfl⟩ x_0 (yt_Y D cM cG cI cJ) hY hP (va_recv hK hP (ci := 0) (q0 := 0) rfl rfl) rfl hl.1 rfl (Nat.le_of_ble_eq_true rfl) d_T_proof_2 ⟨Nat.le_of_ble_eq_true rfl, Nat.le_of_ble_eq_true rfl⟩ (fun r1 h2 => ?_)
  rcases h2 with ⟨i, hi, rfl, rfl⟩ | ⟨rfl, n3⟩
  · refine W.eq (g2 := F0 m 5 ls (.ref (pm i) :: [])) rfl ?_
    have hcl : (nI i).toNatClampNeg = i := nI_clamp (by omega)
    have hix : is_ix nm (nI i) := ix_nI (by omega) hi
    have hMi := hM i hi
    refine lv_astore_n (lv' := [(2, .ref (pm i)), (0, .ref o), (1, .int (nI i))]) hx hb d_T_proof_5 rfl hl (by decide) rfl (fun ls hl => ?_)
    refine lv_aload_n hx hb d_T_proof_6 rfl (lv_at hl 0 rfl) ?_
    refine lv_ifnonnull (tgt := 20) hx hb d_T_proof_7 (by decide) ?_
    refine lv_aload_n hx hb d_T_proof_20 rfl (lv_at hl 0 rfl) ?_
    refine cp_V (n := 0) [] hC (t_V_hasEnded l D cM cG cI cJ (pm i) F i) ⟨kc_V_hasEnded, kn_V, k_T_152, ki_V_hasEnded, kv_V_hasEnded⟩ (by decide +kernel) ⟨rfl, rfl, Nat.le_of_ble_eq_true rfl, Nat.le_of_ble_eq_true rfl⟩ x_0 (yt_Y D cM cG cI cJ) hY (wk_1 hP (mv_at hi)) (va_recv hK hP (ci := 1) (q0 := (i + 3)) rfl (mv_at hi)) rfl hl.1 rfl (Nat.le_of_ble_eq_true rfl) d_T_proof_21 ⟨Nat.le_of_ble_eq_true rfl, Nat.le_of_ble_eq_true rfl⟩ (fun r4 h5 => ?_)
    rcases h5 with ⟨rfl, b6⟩ | ⟨rfl, b6⟩
    · have b6 : is_en (F 10 i) := b6
      refine lv_if_ne (tgt := 35) hx hb d_T_proof_24 (by decide) (fun _ => ?_) (fun q9 => absurd q9 (by decide))
      refine lv_aload_n hx hb d_T_proof_35 rfl (lv_at hl 0 rfl) ?_
      refine va_get (D := D) (C := R_V) (T := F_V) (N := 19) hx hb htw uw_V hown hK hP (i + 3) (mv_at hi) rfl 10 (by decide) (htw _ k_T_79) (fun _ h9 => h9) rfl d_T_proof_36 ?_
      refine lv_iconst (v := 5) hx hb d_T_proof_39 (by decide) ?_
      refine lv_icmp_ne (tgt := 70) hx hb d_T_proof_40 (by decide) (fun c7 => ?_) (fun c7 => ?_)
      · refine lv_iconst (v := 0) hx hb d_T_proof_70 (by decide) ?_
        subst hAe
        have e_S : sp_pr (off, nm, ng, now, F, R) (nI i) = (0, 0, (off, nm, ng, now, F, R)) := by simp only [sp_pr, hcl]; rw [if_pos hix, if_neg (fun z => z b6), if_neg (fun q => c7 q.1)]
        refine vx_ret ?_
        refine W.widen (k := 1) (n := 6) (by decide) (by decide) ?_
        exact W.iret (v := 0) hx hb hr (fun t ht hW => ⟨⟨_, pg, rfl, ⟨by rw [e_S], by rw [e_S]⟩, by rw [ht, e_S]; exact hP, by rw [e_S]; exact hD⟩, hS.F ht⟩) hS.2.2 d_T_proof_71
      · refine lv_aload_n hx hb d_T_proof_43 rfl (lv_at hl 1 rfl) ?_
        refine va_get (D := D) (C := R_T) (T := F_T) (N := 6) hx hb htw uw_T hown hK hP 0 rfl rfl 5 (by decide) (htw _ k_T_28) (fun _ h9 => h9) rfl d_T_proof_44 ?_
        refine lv_aload_n hx hb d_T_proof_47 rfl (lv_at hl 0 rfl) ?_
        refine va_get (D := D) (C := R_V) (T := F_V) (N := 19) hx hb htw uw_V hown hK hP (i + 3) (mv_at hi) rfl 2 (by decide) (htw _ k_T_88) (fun _ h9 => h9) rfl d_T_proof_48 ?_
        refine lv_bipush (v := 70) hx hb d_T_proof_51 (by decide) ?_
        refine lv_iadd hx hb d_T_proof_53 ?_
        refine lv_icmp_gt (tgt := 70) hx hb d_T_proof_54 (by decide) (fun c8 => ?_) (fun c8 => ?_)
        · refine lv_iconst (v := 0) hx hb d_T_proof_70 (by decide) ?_
          subst hAe
          have e_S : sp_pr (off, nm, ng, now, F, R) (nI i) = (0, 0, (off, nm, ng, now, F, R)) := by simp only [sp_pr, hcl]; rw [if_pos hix, if_neg (fun z => z b6), if_neg (fun q => q.2 c8)]
          refine vx_ret ?_
          refine W.widen (k := 1) (n := 6) (by decide) (by decide) ?_
          exact W.iret (v := 0) hx hb hr (fun t ht hW => ⟨⟨_, pg, rfl, ⟨by rw [e_S], by rw [e_S]⟩, by rw [ht, e_S]; exact hP, by rw [e_S]; exact hD⟩, hS.F ht⟩) hS.2.2 d_T_proof_71
        · refine lv_aload_n hx hb d_T_proof_57 rfl (lv_at hl 0 rfl) ?_
          refine lv_bipush (v := 6) hx hb d_T_proof_58 (by decide) ?_
          refine va_put (D := D) (ci := 1) (v := .int 6) (ty := .int) (C := R_V) (T := F_V) (N := 19) hx hb htw uw_V ft_V tk_V n_V hown hK hP hD hS (i + 3) (mv_at hi) rfl 10 (by decide) (htw _ k_T_79) (fun _ h9 => h9) rfl (by decide +kernel) rfl rfl (Nat.le_of_ble_eq_true rfl) d_T_proof_60 (fun H locs hP hD hS => ?_)
          rw [mv_put hi (by decide)] at hP hD
          have hP : va_P D cl_L (ws_C cM cG o am ag pm pg (off, nm, ng, now, up_F F 10 i 6, R)) H := hP
          have hD : va_D A (ws_C cM cG o am ag pm pg (off, nm, ng, now, up_F F 10 i 6, R)) := hD
          refine lv_aload_n hx hb d_T_proof_63 rfl (lv_at hl 0 rfl) ?_
          refine lv_iconst (v := 0) hx hb d_T_proof_64 (by decide) ?_
          refine va_put (D := D) (ci := 1) (v := .int 0) (ty := .int) (C := R_V) (T := F_V) (N := 19) hx hb htw uw_V ft_V tk_V n_V hown hK hP hD hS (i + 3) (mv_at hi) rfl 12 (by decide) (htw _ k_T_155) (fun _ h9 => h9) rfl (by decide +kernel) rfl rfl (Nat.le_of_ble_eq_true rfl) d_T_proof_65 (fun H locs hP hD hS => ?_)
          rw [mv_put hi (by decide)] at hP hD
          have hP : va_P D cl_L (ws_C cM cG o am ag pm pg (off, nm, ng, now, up_F (up_F F 10 i 6) 12 i 0, R)) H := hP
          have hD : va_D A (ws_C cM cG o am ag pm pg (off, nm, ng, now, up_F (up_F F 10 i 6) 12 i 0, R)) := hD
          refine lv_iconst (v := 2) hx hb d_T_proof_68 (by decide) ?_
          subst hAe
          have e_S : sp_pr (off, nm, ng, now, F, R) (nI i) = (0, 2, (off, nm, ng, now, up_F (up_F F 10 i 6) 12 i 0, R)) := by simp only [sp_pr, hcl]; rw [if_pos hix, if_neg (fun z => z b6), if_pos ⟨c7, c8⟩]
          refine vx_ret ?_
          refine W.widen (k := 1) (n := 6) (by decide) (by decide) ?_
          exact W.iret (v := 2) hx hb hr (fun t ht hW => ⟨⟨_, pg, rfl, ⟨by rw [e_S], by rw [e_S]⟩, by rw [ht, e_S]; exact hP, by rw [e_S]; exact hD⟩, hS.F ht⟩) hS.2.2 d_T_proof_69
    · have b6 : ¬ is_en (F 10 i) := b6
      refine lv_if_ne (tgt := 35) hx hb d_T_proof_24 (by decide) (fun q9 => absurd rfl q9) (fun _ => ?_)
      refine lv_aload_n hx hb d_T_proof_27 rfl (lv_at hl 0 rfl) ?_
      refine lv_bipush (v := 6) hx hb d_T_proof_28 (by decide) ?_
      refine va_put (D := D) (ci := 1) (v := .int 6) (ty := .int) (C := R_V) (T := F_V) (N := 19) hx hb htw uw_V ft_V tk_V n_V hown hK hP hD hS (i + 3) (mv_at hi) rfl 10 (by decide) (htw _ k_T_79) (fun _ h9 => h9) rfl (by decide +kernel) rfl rfl (Nat.le_of_ble_eq_true rfl) d_T_proof_30 (fun H locs hP hD hS => ?_)
      rw [mv_put hi (by decide)] at hP hD
      have hP : va_P D cl_L (ws_C cM cG o am ag pm pg (off, nm, ng, now, up_F F 10 i 6, R)) H := hP
      have hD : va_D A (ws_C cM cG o am ag pm pg (off, nm, ng, now, up_F F 10 i 6, R)) := hD
      refine lv_iconst (v := 1) hx hb d_T_proof_33 (by decide) ?_
      subst hAe
      have e_S : sp_pr (off, nm, ng, now, F, R) (nI i) = (0, 1, (off, nm, ng, now, up_F F 10 i 6, R)) := by simp only [sp_pr, hcl]; rw [if_pos hix, if_pos b6]
      refine vx_ret ?_
      refine W.widen (k := 1) (n := 6) (by decide) (by decide) ?_
      exact W.iret (v := 1) hx hb hr (fun t ht hW => ⟨⟨_, pg, rfl, ⟨by rw [e_S], by rw [e_S]⟩, by rw [ht, e_S]; exact hP, by rw [e_S]; exact hD⟩, hS.F ht⟩) hS.2.2 d_T_proof_34
  · refine W.eq (g2 := F0 m 5 ls (.null :: [])) rfl ?_
    refine lv_astore_nN (lv' := [(2, .null), (0, .ref o), (1, .int x)]) hx hb d_T_proof_5 rfl hl (by decide) rfl (fun ls hl => ?_)
    refine lv_aload_nN hx hb d_T_proof_6 rfl (lv_at hl 0 rfl) ?_
    refine lv_ifnonnullN hx hb d_T_proof_7 ?_
    obtain ⟨sa9, hsa9⟩ := hY.2.2.2.1 (150, "no such movement") (by decide)
    have e_S : sp_pr (off, nm, ng, now, F, R) x = (1, 0, (off, nm, ng, now, F, R)) := by simp only [sp_pr]; rw [if_neg n3]
    exact vx_throwS (A := A) hx hb hl0 hown (by decide +kernel) (by decide +kernel) (htw _ k_T_38) (htw _ kn_IllegalArgumentException) hsa9 (at_IllegalArgumentException htw hY) ag_IllegalArgumentException hXs.1 hXs.2 hS (hl.1.trans hml.symm) d_T_proof_10 d_T_proof_13 d_T_proof_14 d_T_proof_16 d_T_proof_19 (fun x hx9 => (hne x hx9).elim) (Nat.le_of_ble_eq_true rfl) (Nat.le_of_ble_eq_true rfl) (Nat.le_of_ble_eq_true rfl) (Nat.le_of_ble_eq_true rfl) hlocks (fun t ht1 ht2 ht3 => ⟨(), trivial, ⟨rfl, by rw [e_S]⟩, ht2, fun q h1 _ => ht3 q h1⟩) (fun z hz => nomatch hz) (Nat.le_of_ble_eq_true rfl) (Nat.le_of_ble_eq_true rfl)
