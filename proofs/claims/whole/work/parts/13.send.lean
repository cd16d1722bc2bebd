section SD
variable {cM cG : ClassId} {o am ag : Nat} {pm pg : Nat → Nat} {off now : Int32} {nm ng : Nat} {F : Nat → Nat → Int32} {R : Nat → Int32}
theorem sd_last {ws : va_W} {x : Nat × va_E} : (ws ++ [x])[ws.length]? = some x := by rw [List.getElem?_append_right (Nat.le_refl _), Nat.sub_self]; rfl
theorem sd_set {ws : va_W} {x y : Nat × va_E} : (ws ++ [x]).set ws.length y = ws ++ [y] := by rw [List.set_append_right _ _ (Nat.le_refl _), Nat.sub_self]; rfl
theorem sd_fin {q : Nat} {k m f t v w : Int32} : (o, .inr (0, [.int off, .ref am, .ref ag, .int (nI nm), .int (nI (ng + 1)), .int now])) :: (am, .inl (cM, 20, .inr (.inr (.inr (.inr (rf_s pm nm)))))) :: (ag, .inl (cG, 200, .inr (.inr (.inr (.inr (va_up (rf_s pg ng) ng (some q))))))) :: ((ws_M pm F nm ++ ws_G pg R ng) ++ [(q, .inr (2, [.int k, .int m, .int f, .int t, .int v, .int w, .int 0]))]) = ws_C cM cG o am ag pm (va_up pg ng q) (off, nm, ng + 1, now, F, sn_R R ng k m f t v w) := by
  have e : ([.int k, .int m, .int f, .int t, .int v, .int w, .int 0] : List Value) = ms_L (sn_R R ng k m f t v w) ng := by simp only [ms_L, sn_0, sn_1, sn_2, sn_3, sn_4, sn_5, sn_6]
  rw [e, List.append_assoc, ws_Gp (fun j hj => sn_o hj), rf_up]
  rfl
end SD
set_option maxHeartbeats 4000000 in
set_option maxRecDepth 100000 in
theorem t_T_send (l : Launch) (D : va_G) (cM cG cI cJ : ClassId) (o am ag : Nat) (pm pg : Nat → Nat) (off : Int32) (nm ng : Nat) (now : Int32) (F : Nat → Nat → Int32) (R : Nat → Int32) (sz : Nat) (k9 : Int32) (m9 : Int32) (f9 : Int32) (t9 : Int32) (v9 : Int32) (w9 : Int32) (hg : ng < 200) : Met l y_T_send (Cond.code y_T_send c_T_send 7 none :: tw_L) ({ frames := 2, cells := 1, slots := 7, locals := 38 } : Room) (mu_P D (ws_C cM cG o am ag pm pg (off, nm, ng, now, F, R)) sz (fun _ _ => True) (yt_P D cM cG cI cJ) [.ref o, .int k9, .int m9, .int f9, .int t9, .int v9, .int w9]) (va_Qv (fun _ : Nat → Nat => True) (mu_B D (ws_C cM cG o am ag pm pg (off, nm, ng, now, F, R)) sz (fun pg1 => (ws_C cM cG o am ag pm pg1 (off, nm, ng + 1, now, F, sn_R R ng k9 m9 f9 t9 v9 w9)))) (va_A (ws_C cM cG o am ag pm pg (off, nm, ng, now, F, R)) sz)) 1 7 (va_A (ws_C cM cG o am ag pm pg (off, nm, ng, now, F, R)) sz) := by
  refine Met.ofW (cc := c_T_send) (maxL := 7) (ret := none) (by decide) rfl ?_
  intro p e s m args below meth c s₁ B hml hv
  obtain ⟨rfl, hsz, hP, hD0, hX, hY⟩ := hv
  have hx := B.exec
  have hb := B.bytes
  have hr := B.returns
  have htw : ∀ w ∈ tw_L, w.before _ s = true := fun w hw => atoms_spec (ws := (Cond.code y_T_send c_T_send 7 none :: tw_L)) B.pre w (List.mem_cons_of_mem _ hw)
  have hown : s.vm.findClass R_T = some m.cls := findClass_of_methodNamed B.named
  have hlocks := B.notSynchronized
  have hC : CallFix p m c c_T_send 7 s _ tw_L R_T := ⟨hx, hb, hml, hown, htw⟩
  have hK := hY.1
  have hl := lv_entry ([.ref o, .int k9, .int m9, .int f9, .int t9, .int v9, .int w9]) (n := 7) (Nat.le_of_ble_eq_true rfl)
  rw [lg_entry_eq]
  generalize (lg_sl ([.ref o, .int k9, .int m9, .int f9, .int t9, .int v9, .int w9]) ++ List.replicate (7 - (lg_sl ([.ref o, .int k9, .int m9, .int f9, .int t9, .int v9, .int w9])).length) Slot.unset).toArray = ls at hl ⊢
  have hl : lv_has ls 7 [(0, .ref o), (1, .int k9), (2, .int m9), (3, .int f9), (4, .int t9), (5, .int v9), (6, .int w9)] := hl
  subst hsz
  obtain ⟨A, hAe⟩ : ∃ A : Nat → Prop, A = va_A (ws_C cM cG o am ag pm pg (off, nm, ng, now, F, R)) s.heap.size := ⟨_, rfl⟩
  have hD : va_D A (ws_C cM cG o am ag pm pg (off, nm, ng, now, F, R)) := by rw [hAe]; exact hD0.self
  have hA : ∀ q : Nat, s.heap.size ≤ q → A q := fun q h => by rw [hAe]; exact Or.inr h
  have hS : va_S A s.heap s.heap [] := va_S.rf
  refine lv_aload_n hx hb d_T_send_0 rfl (lv_at hl 0 rfl) ?_
  refine va_get (D := D) (C := R_T) (T := F_T) (N := 6) hx hb htw uw_T hown hK hP 0 rfl rfl 4 (by decide) (htw _ k_T_25) (fun _ h9 => h9) rfl d_T_send_1 ?_
  refine lv_aload_n hx hb d_T_send_4 rfl (lv_at hl 0 rfl) ?_
  refine va_get (D := D) (C := R_T) (T := F_T) (N := 6) hx hb htw uw_T hown hK hP 0 rfl rfl 2 (by decide) (htw _ k_T_17) (fun _ h9 => h9) rfl d_T_send_5 ?_
  refine va_alen (v := 200) hx hb hK hP 2 1 rfl rfl rfl d_T_send_8 ?_
  refine lv_icmp_ge (tgt := 47) hx hb d_T_send_9 (by decide) (fun c1 => absurd c1 (nI_ge (show ng < 200 from hg) (by decide))) (fun _ => ?_)
  refine lv_aload_n hx hb d_T_send_12 rfl (lv_at hl 0 rfl) ?_
  refine va_get (D := D) (C := R_T) (T := F_T) (N := 6) hx hb htw uw_T hown hK hP 0 rfl rfl 2 (by decide) (htw _ k_T_17) (fun _ h9 => h9) rfl d_T_send_13 ?_
  refine lv_aload_n hx hb d_T_send_16 rfl (lv_at hl 0 rfl) ?_
  refine va_get (D := D) (C := R_T) (T := F_T) (N := 6) hx hb htw uw_T hown hK hP 0 rfl rfl 4 (by decide) (htw _ k_T_25) (fun _ h9 => h9) rfl d_T_send_17 ?_
  refine va_new (ci := 2) (fs := [.int 0, .int 0, .int 0, .int 0, .int 0, .int 0, .int 0]) (C := R_G) (T := F_G) (N := 7) hx hb htw uw_G ft_G tk_G hown (htw _ k_T_15) (htw _ kb_G) (htw _ kn_G) hK hP hD hS hA rfl (by decide) (Nat.le_of_ble_eq_true rfl) (Nat.le_of_ble_eq_true rfl) d_T_send_20 (fun q H hP hD hS => ?_)
  refine lv_dup hx hb d_T_send_23 rfl ?_
  refine lv_iload_n hx hb d_T_send_24 rfl (lv_at hl 1 rfl) ?_
  refine lv_iload_n hx hb d_T_send_25 rfl (lv_at hl 2 rfl) ?_
  refine lv_iload_n hx hb d_T_send_26 rfl (lv_at hl 3 rfl) ?_
  refine lv_iload hx hb d_T_send_27 (lv_at hl 4 rfl) ?_
  refine lv_iload hx hb d_T_send_29 (lv_at hl 5 rfl) ?_
  refine lv_iload hx hb d_T_send_31 (lv_at hl 6 rfl) ?_
  refine cm_I (n := 6) [.int k9, .int m9, .int f9, .int t9, .int v9, .int w9] hC (t_G_init l D cM cG cI cJ q _ k9 m9 f9 t9 v9 w9) ⟨kc_G_init, kn_G, k_T_213, ki_G_init⟩ rfl (by decide +kernel) ⟨rfl, rfl, Nat.le_of_ble_eq_true rfl, Nat.le_of_ble_eq_true rfl⟩ x_0 (yt_Y D cM cG cI cJ) hY trivial (wk_1 hP sd_last) (wk_1D trivial) hS (fun z hz => ?_) rfl hl.1 rfl (Nat.le_of_ble_eq_true rfl) d_T_send_33 (⟨Nat.le_of_ble_eq_true rfl, Nat.le_of_ble_eq_true rfl⟩) (fun _ H locs _ hP1 hD1 hz9 hk9 hS => ?_)
  · rcases hz with ⟨k9, e9, h9⟩ | h9
    · cases k9 with
      | zero => simp at h9; rw [← h9.1]; exact hD.2 _ _ sd_last
      | succ k9 => simp at h9
    · exact hA _ (Nat.le_trans hS.1 h9)
  obtain ⟨hP, hD⟩ := jn_1 hP hD sd_last hk9 hP1
  rw [sd_set] at hP hD
  refine va_astq hx hb hK hP hD hS 2 1 _ 2 rfl rfl sd_last rfl (vp_in_nI (show ng < 200 from hg) (by decide)) d_T_send_36 (fun H locs hP hD hS => ?_)
  rw [nI_clamp (Nat.lt_trans hg (by decide))] at hP hD
  refine lv_aload_n hx hb d_T_send_37 rfl (lv_at hl 0 rfl) ?_
  refine lv_dup hx hb d_T_send_38 rfl ?_
  refine va_get (D := D) (C := R_T) (T := F_T) (N := 6) hx hb htw uw_T hown hK hP 0 rfl rfl 4 (by decide) (htw _ k_T_25) (fun _ h9 => h9) rfl d_T_send_39 ?_
  refine lv_iconst (v := 1) hx hb d_T_send_42 (by decide) ?_
  refine lv_iadd hx hb d_T_send_43 ?_
  refine sk_as (nI_1 ng) ?_
  refine va_put (D := D) (ci := 0) (v := .int (nI (ng + 1))) (ty := .int) (C := R_T) (T := F_T) (N := 6) hx hb htw uw_T ft_T tk_T n_T hown hK hP hD hS 0 rfl rfl 4 (by decide) (htw _ k_T_25) (fun _ h9 => h9) rfl (by decide +kernel) rfl rfl (Nat.le_of_ble_eq_true rfl) d_T_send_44 (fun H locs hP hD hS => ?_)
  have hP : va_P D cl_L (ws_C cM cG o am ag pm (va_up pg ng q) (off, nm, ng + 1, now, F, sn_R R ng k9 m9 f9 t9 v9 w9)) H := by rw [← sd_fin]; exact hP
  have hD : va_D A (ws_C cM cG o am ag pm (va_up pg ng q) (off, nm, ng + 1, now, F, sn_R R ng k9 m9 f9 t9 v9 w9)) := by rw [← sd_fin]; exact hD
  subst hAe
  refine W.widen (k := 1) (n := 7) (by decide) (by decide) ?_
  exact W.vret hx hb hr (fun t ht hW => ⟨⟨va_up pg ng q, rfl, trivial, by rw [ht]; exact hP, hD⟩, hS.F ht⟩) hS.2.2 d_T_send_47
set_option maxHeartbeats 4000000 in
set_option maxRecDepth 100000 in
theorem t_T_sendArrived (l : Launch) (D : va_G) (cM cG cI cJ : ClassId) (o am ag : Nat) (pm pg : Nat → Nat) (off : Int32) (nm ng : Nat) (now : Int32) (F : Nat → Nat → Int32) (R : Nat → Int32) (sz : Nat) (x : Int32) (i : Nat) (hi : i < nm) (h8 : F 8 i = 0 ∨ F 8 i = 1) (hg : ng < 200) : Met l y_T_sendArrived (Cond.code y_T_sendArrived c_T_sendArrived 3 none :: tw_L) ({ frames := 3, cells := 1, slots := 7, locals := 64 } : Room) (mu_P D (ws_C cM cG o am ag pm pg (off, nm, ng, now, F, R)) sz (fun _ _ => True) (yt_P D cM cG cI cJ) [.ref o, .int x, .ref (pm i)]) (va_Qv (fun _ : Nat → Nat => True) (mu_B D (ws_C cM cG o am ag pm pg (off, nm, ng, now, F, R)) sz (fun pg1 => (ws_C cM cG o am ag pm pg1 (off, nm, ng + 1, now, F, sn_R R ng 2 x (F 6 i) (F 0 i) (F 7 i) (F 8 i))))) (va_A (ws_C cM cG o am ag pm pg (off, nm, ng, now, F, R)) sz)) 1 7 (va_A (ws_C cM cG o am ag pm pg (off, nm, ng, now, F, R)) sz) := by
  refine Met.ofW (cc := c_T_sendArrived) (maxL := 3) (ret := none) (by decide) rfl ?_
  intro p e s m args below meth c s₁ B hml hv
  obtain ⟨rfl, hsz, hP, hD0, hX, hY⟩ := hv
  have hx := B.exec
  have hb := B.bytes
  have hr := B.returns
  have htw : ∀ w ∈ tw_L, w.before _ s = true := fun w hw => atoms_spec (ws := (Cond.code y_T_sendArrived c_T_sendArrived 3 none :: tw_L)) B.pre w (List.mem_cons_of_mem _ hw)
  have hown : s.vm.findClass R_T = some m.cls := findClass_of_methodNamed B.named
  have hlocks := B.notSynchronized
  have hC : CallFix p m c c_T_sendArrived 3 s _ tw_L R_T := ⟨hx, hb, hml, hown, htw⟩
  have hK := hY.1
  have hl := lv_entry ([.ref o, .int x, .ref (pm i)]) (n := 3) (Nat.le_of_ble_eq_true rfl)
  rw [lg_entry_eq]
  generalize (lg_sl ([.ref o, .int x, .ref (pm i)]) ++ List.replicate (3 - (lg_sl ([.ref o, .int x, .ref (pm i)])).length) Slot.unset).toArray = ls at hl ⊢
  have hl : lv_has ls 3 [(0, .ref o), (1, .int x), (2, .ref (pm i))] := hl
  subst hsz
  obtain ⟨A, hAe⟩ : ∃ A : Nat → Prop, A = va_A (ws_C cM cG o am ag pm pg (off, nm, ng, now, F, R)) s.heap.size := ⟨_, rfl⟩
  have hD : va_D A (ws_C cM cG o am ag pm pg (off, nm, ng, now, F, R)) := by rw [hAe]; exact hD0.self
  have hA : ∀ q : Nat, s.heap.size ≤ q → A q := fun q h => by rw [hAe]; exact Or.inr h
  have hS : va_S A s.heap s.heap [] := va_S.rf
  refine lv_aload_n hx hb d_T_sendArrived_0 rfl (lv_at hl 0 rfl) ?_
  refine lv_iconst (v := 2) hx hb d_T_sendArrived_1 (by decide) ?_
  refine lv_iload_n hx hb d_T_sendArrived_2 rfl (lv_at hl 1 rfl) ?_
  refine lv_aload_n hx hb d_T_sendArrived_3 rfl (lv_at hl 2 rfl) ?_
  refine va_get (D := D) (C := R_V) (T := F_V) (N := 19) hx hb htw uw_V hown hK hP (i + 3) (mv_at hi) rfl 6 (by decide) (htw _ k_T_82) (fun _ h9 => h9) rfl d_T_sendArrived_4 ?_
  refine lv_aload_n hx hb d_T_sendArrived_7 rfl (lv_at hl 2 rfl) ?_
  refine va_get (D := D) (C := R_V) (T := F_V) (N := 19) hx hb htw uw_V hown hK hP (i + 3) (mv_at hi) rfl 0 (by decide) (htw _ k_T_76) (fun _ h9 => h9) rfl d_T_sendArrived_8 ?_
  refine lv_aload_n hx hb d_T_sendArrived_11 rfl (lv_at hl 2 rfl) ?_
  refine va_get (D := D) (C := R_V) (T := F_V) (N := 19) hx hb htw uw_V hown hK hP (i + 3) (mv_at hi) rfl 7 (by decide) (htw _ k_T_85) (fun _ h9 => h9) rfl d_T_sendArrived_12 ?_
  refine lv_aload_n hx hb d_T_sendArrived_15 rfl (lv_at hl 2 rfl) ?_
  refine va_get (D := D) (C := R_V) (T := F_V) (N := 19) hx hb htw uw_V hown hK hP (i + 3) (mv_at hi) rfl 8 (by decide) (htw _ k_T_91) (fun _ h9 => h9) rfl d_T_sendArrived_16 ?_
  refine cp_S (n := 1) [.int (F 8 i)] hC (t_T_bit l D cM cG cI cJ (F 8 i)) ⟨kc_T_bit, kn_T, k_T_179, ks_T_bit⟩ (by decide +kernel) ⟨rfl, rfl, Nat.le_of_ble_eq_true rfl, Nat.le_of_ble_eq_true rfl⟩ x_0 (yt_Y D cM cG cI cJ) hY trivial rfl hl.1 rfl (Nat.le_of_ble_eq_true rfl) d_T_sendArrived_19 ⟨Nat.le_of_ble_eq_true rfl, Nat.le_of_ble_eq_true rfl⟩ (fun r1 h2 => ?_)
  obtain rfl : r1 = (F 8 i) := by rcases h2 with ⟨q1, q2⟩ | ⟨q1, q2⟩ <;> rcases h8 with q3 | q3 <;> simp_all
  have hF9 := wk_F hD hS hA
  refine cm_V (n := 6) [.int 2, .int x, .int (F 6 i), .int (F 0 i), .int (F 7 i), .int (F 8 i)] hC (t_T_send l D cM cG cI cJ o am ag pm pg off nm ng now F R _ 2 x (F 6 i) (F 0 i) (F 7 i) (F 8 i) hg) ⟨kc_T_send, kn_T, k_T_63, ki_T_send, kv_T_send⟩ (by decide +kernel) ⟨rfl, rfl, Nat.le_of_ble_eq_true rfl, Nat.le_of_ble_eq_true rfl⟩ x_0 (yt_Y D cM cG cI cJ) hY trivial (va_recv hK hP (ci := 0) (q0 := 0) rfl rfl) hP (wk_T hD) hS hF9 rfl hl.1 rfl (Nat.le_of_ble_eq_true rfl) d_T_sendArrived_22 ⟨Nat.le_of_ble_eq_true rfl, Nat.le_of_ble_eq_true rfl⟩ (fun pg3 H locs hw9 hP1 hD1 hz9 hk9 hS => ?_)
  have hP : va_P D cl_L (ws_C cM cG o am ag pm pg3 (off, nm, ng + 1, now, F, sn_R R ng 2 x (F 6 i) (F 0 i) (F 7 i) (F 8 i))) H := hP1
  have hD : va_D A (ws_C cM cG o am ag pm pg3 (off, nm, ng + 1, now, F, sn_R R ng 2 x (F 6 i) (F 0 i) (F 7 i) (F 8 i))) := wk_D hD1 hF9
  subst hAe
  refine W.widen (k := 1) (n := 7) (by decide) (by decide) ?_
  exact W.vret hx hb hr (fun t ht hW => ⟨⟨pg3, rfl, trivial, by rw [ht]; exact hP, hD⟩, hS.F ht⟩) hS.2.2 d_T_sendArrived_25
set_option maxHeartbeats 4000000 in
set_option maxRecDepth 100000 in
theorem t_T_sendResult (l : Launch) (D : va_G) (cM cG cI cJ : ClassId) (o am ag : Nat) (pm pg : Nat → Nat) (off : Int32) (nm ng : Nat) (now : Int32) (F : Nat → Nat → Int32) (R : Nat → Int32) (sz : Nat) (x : Int32) (i : Nat) (hi : i < nm) (hg : ng < 200) : Met l y_T_sendResult (Cond.code y_T_sendResult c_T_sendResult 3 none :: tw_L) ({ frames := 3, cells := 1, slots := 7, locals := 64 } : Room) (mu_P D (ws_C cM cG o am ag pm pg (off, nm, ng, now, F, R)) sz (fun _ _ => True) (yt_P D cM cG cI cJ) [.ref o, .int x, .ref (pm i)]) (va_Qv (fun _ : Nat → Nat => True) (mu_B D (ws_C cM cG o am ag pm pg (off, nm, ng, now, F, R)) sz (fun pg1 => (ws_C cM cG o am ag pm pg1 (off, nm, ng + 1, now, F, sn_R R ng 3 x (F 6 i) (F 0 i) (F 9 i) (F 7 i))))) (va_A (ws_C cM cG o am ag pm pg (off, nm, ng, now, F, R)) sz)) 1 7 (va_A (ws_C cM cG o am ag pm pg (off, nm, ng, now, F, R)) sz) := by
  refine Met.ofW (cc := c_T_sendResult) (maxL := 3) (ret := none) (by decide) rfl ?_
  intro p e s m args below meth c s₁ B hml hv
  obtain ⟨rfl, hsz, hP, hD0, hX, hY⟩ := hv
  have hx := B.exec
  have hb := B.bytes
  have hr := B.returns
  have htw : ∀ w ∈ tw_L, w.before _ s = true := fun w hw => atoms_spec (ws := (Cond.code y_T_sendResult c_T_sendResult 3 none :: tw_L)) B.pre w (List.mem_cons_of_mem _ hw)
  have hown : s.vm.findClass R_T = some m.cls := findClass_of_methodNamed B.named
  have hlocks := B.notSynchronized
  have hC : CallFix p m c c_T_sendResult 3 s _ tw_L R_T := ⟨hx, hb, hml, hown, htw⟩
  have hK := hY.1
  have hl := lv_entry ([.ref o, .int x, .ref (pm i)]) (n := 3) (Nat.le_of_ble_eq_true rfl)
  rw [lg_entry_eq]
  generalize (lg_sl ([.ref o, .int x, .ref (pm i)]) ++ List.replicate (3 - (lg_sl ([.ref o, .int x, .ref (pm i)])).length) Slot.unset).toArray = ls at hl ⊢
  have hl : lv_has ls 3 [(0, .ref o), (1, .int x), (2, .ref (pm i))] := hl
  subst hsz
  obtain ⟨A, hAe⟩ : ∃ A : Nat → Prop, A = va_A (ws_C cM cG o am ag pm pg (off, nm, ng, now, F, R)) s.heap.size := ⟨_, rfl⟩
  have hD : va_D A (ws_C cM cG o am ag pm pg (off, nm, ng, now, F, R)) := by rw [hAe]; exact hD0.self
  have hA : ∀ q : Nat, s.heap.size ≤ q → A q := fun q h => by rw [hAe]; exact Or.inr h
  have hS : va_S A s.heap s.heap [] := va_S.rf
  refine lv_aload_n hx hb d_T_sendResult_0 rfl (lv_at hl 0 rfl) ?_
  refine lv_iconst (v := 3) hx hb d_T_sendResult_1 (by decide) ?_
  refine lv_iload_n hx hb d_T_sendResult_2 rfl (lv_at hl 1 rfl) ?_
  refine lv_aload_n hx hb d_T_sendResult_3 rfl (lv_at hl 2 rfl) ?_
  refine va_get (D := D) (C := R_V) (T := F_V) (N := 19) hx hb htw uw_V hown hK hP (i + 3) (mv_at hi) rfl 6 (by decide) (htw _ k_T_82) (fun _ h9 => h9) rfl d_T_sendResult_4 ?_
  refine lv_aload_n hx hb d_T_sendResult_7 rfl (lv_at hl 2 rfl) ?_
  refine va_get (D := D) (C := R_V) (T := F_V) (N := 19) hx hb htw uw_V hown hK hP (i + 3) (mv_at hi) rfl 0 (by decide) (htw _ k_T_76) (fun _ h9 => h9) rfl d_T_sendResult_8 ?_
  refine lv_aload_n hx hb d_T_sendResult_11 rfl (lv_at hl 2 rfl) ?_
  refine va_get (D := D) (C := R_V) (T := F_V) (N := 19) hx hb htw uw_V hown hK hP (i + 3) (mv_at hi) rfl 9 (by decide) (htw _ k_T_107) (fun _ h9 => h9) rfl d_T_sendResult_12 ?_
  refine lv_aload_n hx hb d_T_sendResult_15 rfl (lv_at hl 2 rfl) ?_
  refine va_get (D := D) (C := R_V) (T := F_V) (N := 19) hx hb htw uw_V hown hK hP (i + 3) (mv_at hi) rfl 7 (by decide) (htw _ k_T_85) (fun _ h9 => h9) rfl d_T_sendResult_16 ?_
  have hF9 := wk_F hD hS hA
  refine cm_V (n := 6) [.int 3, .int x, .int (F 6 i), .int (F 0 i), .int (F 9 i), .int (F 7 i)] hC (t_T_send l D cM cG cI cJ o am ag pm pg off nm ng now F R _ 3 x (F 6 i) (F 0 i) (F 9 i) (F 7 i) hg) ⟨kc_T_send, kn_T, k_T_63, ki_T_send, kv_T_send⟩ (by decide +kernel) ⟨rfl, rfl, Nat.le_of_ble_eq_true rfl, Nat.le_of_ble_eq_true rfl⟩ x_0 (yt_Y D cM cG cI cJ) hY trivial (va_recv hK hP (ci := 0) (q0 := 0) rfl rfl) hP (wk_T hD) hS hF9 rfl hl.1 rfl (Nat.le_of_ble_eq_true rfl) d_T_sendResult_19 ⟨Nat.le_of_ble_eq_true rfl, Nat.le_of_ble_eq_true rfl⟩ (fun pg1 H locs hw9 hP1 hD1 hz9 hk9 hS => ?_)
  have hP : va_P D cl_L (ws_C cM cG o am ag pm pg1 (off, nm, ng + 1, now, F, sn_R R ng 3 x (F 6 i) (F 0 i) (F 9 i) (F 7 i))) H := hP1
  have hD : va_D A (ws_C cM cG o am ag pm pg1 (off, nm, ng + 1, now, F, sn_R R ng 3 x (F 6 i) (F 0 i) (F 9 i) (F 7 i))) := wk_D hD1 hF9
  subst hAe
  refine W.widen (k := 1) (n := 7) (by decide) (by decide) ?_
  exact W.vret hx hb hr (fun t ht hW => ⟨⟨pg1, rfl, trivial, by rw [ht]; exact hP, hD⟩, hS.F ht⟩) hS.2.2 d_T_sendResult_22
set_option maxHeartbeats 4000000 in
set_option maxRecDepth 100000 in
theorem t_T_answerEnquiry (l : Launch) (D : va_G) (cM cG cI cJ : ClassId) (o am ag : Nat) (pm pg : Nat → Nat) (off : Int32) (nm ng : Nat) (now : Int32) (F : Nat → Nat → Int32) (R : Nat → Int32) (sz : Nat) (x : Int32) (i : Nat) (hi : i < nm) (h8 : F 8 i = 0 ∨ F 8 i = 1) (h17 : F 17 i = 0 ∨ F 17 i = 1) (h18 : F 18 i = 0 ∨ F 18 i = 1) (hg : ng < 200) : Met l y_T_answerEnquiry (Cond.code y_T_answerEnquiry c_T_answerEnquiry 3 none :: tw_L) ({ frames := 4, cells := 1, slots := 7, locals := 86 } : Room) (mu_P D (ws_C cM cG o am ag pm pg (off, nm, ng, now, F, R)) sz (fun _ _ => True) (yt_P D cM cG cI cJ) [.ref o, .int x, .ref (pm i)]) (va_Qv (fun _ : Nat → Nat => True) (mu_B D (ws_C cM cG o am ag pm pg (off, nm, ng, now, F, R)) sz (fun pg1 => (ws_C cM cG o am ag pm pg1 (off, nm, ng + 1, now, F, an_R F R ng i x)))) (va_A (ws_C cM cG o am ag pm pg (off, nm, ng, now, F, R)) sz)) 1 7 (va_A (ws_C cM cG o am ag pm pg (off, nm, ng, now, F, R)) sz) := by
  refine Met.ofW (cc := c_T_answerEnquiry) (maxL := 3) (ret := none) (by decide) rfl ?_
  intro p e s m args below meth c s₁ B hml hv
  obtain ⟨rfl, hsz, hP, hD0, hX, hY⟩ := hv
  have hx := B.exec
  have hb := B.bytes
  have hr := B.returns
  have htw : ∀ w ∈ tw_L, w.before _ s = true := fun w hw => atoms_spec (ws := (Cond.code y_T_answerEnquiry c_T_answerEnquiry 3 none :: tw_L)) B.pre w (List.mem_cons_of_mem _ hw)
  have hown : s.vm.findClass R_T = some m.cls := findClass_of_methodNamed B.named
  have hlocks := B.notSynchronized
  have hC : CallFix p m c c_T_answerEnquiry 3 s _ tw_L R_T := ⟨hx, hb, hml, hown, htw⟩
  have hK := hY.1
  have hl := lv_entry ([.ref o, .int x, .ref (pm i)]) (n := 3) (Nat.le_of_ble_eq_true rfl)
  rw [lg_entry_eq]
  generalize (lg_sl ([.ref o, .int x, .ref (pm i)]) ++ List.replicate (3 - (lg_sl ([.ref o, .int x, .ref (pm i)])).length) Slot.unset).toArray = ls at hl ⊢
  have hl : lv_has ls 3 [(0, .ref o), (1, .int x), (2, .ref (pm i))] := hl
  subst hsz
  obtain ⟨A, hAe⟩ : ∃ A : Nat → Prop, A = va_A (ws_C cM cG o am ag pm pg (off, nm, ng, now, F, R)) s.heap.size := ⟨_, rfl⟩
  have hD : va_D A (ws_C cM cG o am ag pm pg (off, nm, ng, now, F, R)) := by rw [hAe]; exact hD0.self
  have hA : ∀ q : Nat, s.heap.size ≤ q → A q := fun q h => by rw [hAe]; exact Or.inr h
  have hS : va_S A s.heap s.heap [] := va_S.rf
  refine lv_aload_n hx hb d_T_answerEnquiry_0 rfl (lv_at hl 2 rfl) ?_
  refine va_get (D := D) (C := R_V) (T := F_V) (N := 19) hx hb htw uw_V hown hK hP (i + 3) (mv_at hi) rfl 6 (by decide) (htw _ k_T_82) (fun _ h9 => h9) rfl d_T_answerEnquiry_1 ?_
  refine lv_aload_n hx hb d_T_answerEnquiry_4 rfl (lv_at hl 2 rfl) ?_
  refine va_get (D := D) (C := R_V) (T := F_V) (N := 19) hx hb htw uw_V hown hK hP (i + 3) (mv_at hi) rfl 1 (by decide) (htw _ k_T_99) (fun _ h9 => h9) rfl d_T_answerEnquiry_5 ?_
  refine lv_icmp_eq (tgt := 42) hx hb d_T_answerEnquiry_8 (by decide) (fun c1 => ?_) (fun c1 => ?_)
  · refine lv_aload_n hx hb d_T_answerEnquiry_42 rfl (lv_at hl 2 rfl) ?_
    refine cp_V (n := 0) [] hC (t_V_wereControlled l D cM cG cI cJ (pm i) F i) ⟨kc_V_wereControlled, kn_V, k_T_104, ki_V_wereControlled, kv_V_wereControlled⟩ (by decide +kernel) ⟨rfl, rfl, Nat.le_of_ble_eq_true rfl, Nat.le_of_ble_eq_true rfl⟩ x_0 (yt_Y D cM cG cI cJ) hY (wk_1 hP (mv_at hi)) (va_recv hK hP (ci := 1) (q0 := (i + 3)) rfl (mv_at hi)) rfl hl.1 rfl (Nat.le_of_ble_eq_true rfl) d_T_answerEnquiry_43 ⟨Nat.le_of_ble_eq_true rfl, Nat.le_of_ble_eq_true rfl⟩ (fun r2 h3 => ?_)
    rcases h3 with ⟨rfl, b4⟩ | ⟨rfl, b4⟩
    · have b4 : ¬ (F 9 i) = -1 := b4
      refine lv_if_eq (tgt := 58) hx hb d_T_answerEnquiry_46 (by decide) (fun q9 => absurd q9 (by decide)) (fun _ => ?_)
      refine lv_aload_n hx hb d_T_answerEnquiry_49 rfl (lv_at hl 0 rfl) ?_
      refine lv_iload_n hx hb d_T_answerEnquiry_50 rfl (lv_at hl 1 rfl) ?_
      refine lv_aload_n hx hb d_T_answerEnquiry_51 rfl (lv_at hl 2 rfl) ?_
      have hF9 := wk_F hD hS hA
      refine cm_V (n := 2) [.int x, .ref (pm i)] hC (t_T_sendResult l D cM cG cI cJ o am ag pm pg off nm ng now F R _ x i hi hg) ⟨kc_T_sendResult, kn_T, k_T_110, ki_T_sendResult, kv_T_sendResult⟩ (by decide +kernel) ⟨rfl, rfl, Nat.le_of_ble_eq_true rfl, Nat.le_of_ble_eq_true rfl⟩ x_0 (yt_Y D cM cG cI cJ) hY trivial (va_recv hK hP (ci := 0) (q0 := 0) rfl rfl) hP (wk_T hD) hS hF9 rfl hl.1 rfl (Nat.le_of_ble_eq_true rfl) d_T_answerEnquiry_52 ⟨Nat.le_of_ble_eq_true rfl, Nat.le_of_ble_eq_true rfl⟩ (fun pg5 H locs hw9 hP1 hD1 hz9 hk9 hS => ?_)
      have hP : va_P D cl_L (ws_C cM cG o am ag pm pg5 (off, nm, ng + 1, now, F, sn_R R ng 3 x (F 6 i) (F 0 i) (F 9 i) (F 7 i))) H := hP1
      have hD : va_D A (ws_C cM cG o am ag pm pg5 (off, nm, ng + 1, now, F, sn_R R ng 3 x (F 6 i) (F 0 i) (F 9 i) (F 7 i))) := wk_D hD1 hF9
      refine lv_goto (tgt := 64) hx hb d_T_answerEnquiry_55 (by decide) ?_
      subst hAe
      have e_R : an_R F R ng i x = sn_R R ng 3 x (F 6 i) (F 0 i) (F 9 i) (F 7 i) := by unfold an_R; rw [if_pos c1, if_neg b4]
      refine W.widen (k := 1) (n := 7) (by decide) (by decide) ?_
      exact W.vret hx hb hr (fun t ht hW => ⟨⟨pg5, rfl, trivial, by rw [ht, e_R]; exact hP, by rw [e_R]; exact hD⟩, hS.F ht⟩) hS.2.2 d_T_answerEnquiry_64
    · have b4 : (F 9 i) = -1 := b4
      refine lv_if_eq (tgt := 58) hx hb d_T_answerEnquiry_46 (by decide) (fun _ => ?_) (fun q9 => absurd rfl q9)
      refine lv_aload_n hx hb d_T_answerEnquiry_58 rfl (lv_at hl 0 rfl) ?_
      refine lv_iload_n hx hb d_T_answerEnquiry_59 rfl (lv_at hl 1 rfl) ?_
      refine lv_aload_n hx hb d_T_answerEnquiry_60 rfl (lv_at hl 2 rfl) ?_
      have hF9 := wk_F hD hS hA
      refine cm_V (n := 2) [.int x, .ref (pm i)] hC (t_T_sendArrived l D cM cG cI cJ o am ag pm pg off nm ng now F R _ x i hi h8 hg) ⟨kc_T_sendArrived, kn_T, k_T_95, ki_T_sendArrived, kv_T_sendArrived⟩ (by decide +kernel) ⟨rfl, rfl, Nat.le_of_ble_eq_true rfl, Nat.le_of_ble_eq_true rfl⟩ x_0 (yt_Y D cM cG cI cJ) hY trivial (va_recv hK hP (ci := 0) (q0 := 0) rfl rfl) hP (wk_T hD) hS hF9 rfl hl.1 rfl (Nat.le_of_ble_eq_true rfl) d_T_answerEnquiry_61 ⟨Nat.le_of_ble_eq_true rfl, Nat.le_of_ble_eq_true rfl⟩ (fun pg6 H locs hw9 hP1 hD1 hz9 hk9 hS => ?_)
      have hP : va_P D cl_L (ws_C cM cG o am ag pm pg6 (off, nm, ng + 1, now, F, sn_R R ng 2 x (F 6 i) (F 0 i) (F 7 i) (F 8 i))) H := hP1
      have hD : va_D A (ws_C cM cG o am ag pm pg6 (off, nm, ng + 1, now, F, sn_R R ng 2 x (F 6 i) (F 0 i) (F 7 i) (F 8 i))) := wk_D hD1 hF9
      subst hAe
      have e_R : an_R F R ng i x = sn_R R ng 2 x (F 6 i) (F 0 i) (F 7 i) (F 8 i) := by unfold an_R; rw [if_pos c1, if_pos b4]
      refine W.widen (k := 1) (n := 7) (by decide) (by decide) ?_
      exact W.vret hx hb hr (fun t ht hW => ⟨⟨pg6, rfl, trivial, by rw [ht, e_R]; exact hP, by rw [e_R]; exact hD⟩, hS.F ht⟩) hS.2.2 d_T_answerEnquiry_64
  · refine lv_aload_n hx hb d_T_answerEnquiry_11 rfl (lv_at hl 0 rfl) ?_
    refine lv_iconst (v := 5) hx hb d_T_answerEnquiry_12 (by decide) ?_
    refine lv_iload_n hx hb d_T_answerEnquiry_13 rfl (lv_at hl 1 rfl) ?_
    refine lv_aload_n hx hb d_T_answerEnquiry_14 rfl (lv_at hl 2 rfl) ?_
    refine va_get (D := D) (C := R_V) (T := F_V) (N := 19) hx hb htw uw_V hown hK hP (i + 3) (mv_at hi) rfl 1 (by decide) (htw _ k_T_99) (fun _ h9 => h9) rfl d_T_answerEnquiry_15 ?_
    refine lv_aload_n hx hb d_T_answerEnquiry_18 rfl (lv_at hl 2 rfl) ?_
    refine va_get (D := D) (C := R_V) (T := F_V) (N := 19) hx hb htw uw_V hown hK hP (i + 3) (mv_at hi) rfl 0 (by decide) (htw _ k_T_76) (fun _ h9 => h9) rfl d_T_answerEnquiry_19 ?_
    refine lv_aload_n hx hb d_T_answerEnquiry_22 rfl (lv_at hl 2 rfl) ?_
    refine va_get (D := D) (C := R_V) (T := F_V) (N := 19) hx hb htw uw_V hown hK hP (i + 3) (mv_at hi) rfl 17 (by decide) (htw _ k_T_187) (fun _ h9 => h9) rfl d_T_answerEnquiry_23 ?_
    refine cp_S (n := 1) [.int (F 17 i)] hC (t_T_bit l D cM cG cI cJ (F 17 i)) ⟨kc_T_bit, kn_T, k_T_179, ks_T_bit⟩ (by decide +kernel) ⟨rfl, rfl, Nat.le_of_ble_eq_true rfl, Nat.le_of_ble_eq_true rfl⟩ x_0 (yt_Y D cM cG cI cJ) hY trivial rfl hl.1 rfl (Nat.le_of_ble_eq_true rfl) d_T_answerEnquiry_26 ⟨Nat.le_of_ble_eq_true rfl, Nat.le_of_ble_eq_true rfl⟩ (fun r7 h8 => ?_)
    obtain rfl : r7 = (F 17 i) := by rcases h8 with ⟨q1, q2⟩ | ⟨q1, q2⟩ <;> rcases h17 with q3 | q3 <;> simp_all
    refine lv_aload_n hx hb d_T_answerEnquiry_29 rfl (lv_at hl 2 rfl) ?_
    refine va_get (D := D) (C := R_V) (T := F_V) (N := 19) hx hb htw uw_V hown hK hP (i + 3) (mv_at hi) rfl 18 (by decide) (htw _ k_T_190) (fun _ h9 => h9) rfl d_T_answerEnquiry_30 ?_
    refine cp_S (n := 1) [.int (F 18 i)] hC (t_T_bit l D cM cG cI cJ (F 18 i)) ⟨kc_T_bit, kn_T, k_T_179, ks_T_bit⟩ (by decide +kernel) ⟨rfl, rfl, Nat.le_of_ble_eq_true rfl, Nat.le_of_ble_eq_true rfl⟩ x_0 (yt_Y D cM cG cI cJ) hY trivial rfl hl.1 rfl (Nat.le_of_ble_eq_true rfl) d_T_answerEnquiry_33 ⟨Nat.le_of_ble_eq_true rfl, Nat.le_of_ble_eq_true rfl⟩ (fun r9 h10 => ?_)
    obtain rfl : r9 = (F 18 i) := by rcases h10 with ⟨q1, q2⟩ | ⟨q1, q2⟩ <;> rcases h18 with q3 | q3 <;> simp_all
    have hF9 := wk_F hD hS hA
    refine cm_V (n := 6) [.int 5, .int x, .int (F 1 i), .int (F 0 i), .int (F 17 i), .int (F 18 i)] hC (t_T_send l D cM cG cI cJ o am ag pm pg off nm ng now F R _ 5 x (F 1 i) (F 0 i) (F 17 i) (F 18 i) hg) ⟨kc_T_send, kn_T, k_T_63, ki_T_send, kv_T_send⟩ (by decide +kernel) ⟨rfl, rfl, Nat.le_of_ble_eq_true rfl, Nat.le_of_ble_eq_true rfl⟩ x_0 (yt_Y D cM cG cI cJ) hY trivial (va_recv hK hP (ci := 0) (q0 := 0) rfl rfl) hP (wk_T hD) hS hF9 rfl hl.1 rfl (Nat.le_of_ble_eq_true rfl) d_T_answerEnquiry_36 ⟨Nat.le_of_ble_eq_true rfl, Nat.le_of_ble_eq_true rfl⟩ (fun pg11 H locs hw9 hP1 hD1 hz9 hk9 hS => ?_)
    have hP : va_P D cl_L (ws_C cM cG o am ag pm pg11 (off, nm, ng + 1, now, F, sn_R R ng 5 x (F 1 i) (F 0 i) (F 17 i) (F 18 i))) H := hP1
    have hD : va_D A (ws_C cM cG o am ag pm pg11 (off, nm, ng + 1, now, F, sn_R R ng 5 x (F 1 i) (F 0 i) (F 17 i) (F 18 i))) := wk_D hD1 hF9
    refine lv_goto (tgt := 64) hx hb d_T_answerEnquiry_39 (by decide) ?_
    subst hAe
    have e_R : an_R F R ng i x = sn_R R ng 5 x (F 1 i) (F 0 i) (F 17 i) (F 18 i) := by unfold an_R; rw [if_neg c1]
    refine W.widen (k := 1) (n := 7) (by decide) (by decide) ?_
    exact W.vret hx hb hr (fun t ht hW => ⟨⟨pg11, rfl, trivial, by rw [ht, e_R]; exact hP, by rw [e_R]; exact hD⟩, hS.F ht⟩) hS.2.2 d_T_answerEnquiry_64
