/-- the first due day of a limit behind day a -/
def fd_I (l a : Int32) : Int32 := if l + 10 ≤ a then (if l + 15 ≤ a then (if l + 20 ≤ a then (if l + 40 ≤ a then 10001 else l + 40) else l + 20) else l + 15) else l + 10
def nd_I (F : Nat → Nat → Int32) (a : Int32) : Nat → Int32
  | 0 => 10001
  | n + 1 => mn_I (nd_I F a n) (fd_I (F 2 n) a)
theorem sa_2 {X : Heap → Prop} : is_X (fun U H => X H ∧ sa_P no_A U H) := fun u U H hW h => ⟨h.1, sa_X u U H hW h.2⟩
section MW
variable {cM cG : ClassId} {o am ag : Nat} {pm pg : Nat → Nat} {off now : Int32} {nm ng : Nat} {F : Nat → Nat → Int32} {R : Nat → Int32}
theorem nw_at {i : Nat} {a b d s n v : Int32} (hz : iv_z F i) : mv_L (nw_F F i a b d s n v) i = [.int a, .int b, .int d, .int s, .int n, .int v, .int (-1), .int (-1), .int 0, .int (-1), .int 1, .int 0, .int 0, .int 0, .int (-1), .int (-1), .int (-1), .int 0, .int 0] := by
  obtain ⟨z1, z2, z3, z4, z5, z6⟩ := hz
  simp [mv_L, nw_F, up_at, z1, z2, z3, z4, z5, z6]
theorem nw_ni {i k j : Nat} {a b d s n v : Int32} (h : j ≠ i) : nw_F F i a b d s n v k j = F k j := by unfold nw_F; simp only [up_ni h]
theorem mw_fin {q : Nat} {a b d s n v : Int32} (hz : iv_z F nm) : (o, .inr (0, [.int off, .ref am, .ref ag, .int (nI (nm + 1)), .int (nI ng), .int now])) :: (am, .inl (cM, 20, .inr (.inr (.inr (.inr (va_up (rf_s pm nm) nm (some q))))))) :: (ag, .inl (cG, 200, .inr (.inr (.inr (.inr (rf_s pg ng)))))) :: ((ws_M pm F nm ++ [(q, .inr (1, [.int a, .int b, .int d, .int s, .int n, .int v, .int (-1), .int (-1), .int 0, .int (-1), .int 1, .int 0, .int 0, .int 0, .int (-1), .int (-1), .int (-1), .int 0, .int 0]))]) ++ ws_G pg R ng) = ws_C cM cG o am ag (va_up pm nm q) pg (off, nm + 1, ng, now, nw_F F nm a b d s n v, R) := by
  rw [← nw_at hz, ws_Mp (fun k j hj => nw_ni hj), rf_up]
  rfl
end MW
theorem mw_P {D : va_G} {x y z q : Nat × va_E} {wa wb : va_W} {H : Heap} (h : va_P D cl_L (x :: y :: z :: ((wa ++ wb) ++ [q])) H) : va_P D cl_L (x :: y :: z :: ((wa ++ [q]) ++ wb)) H := va_P.swap (a := x :: y :: z :: wa) (b := wb) (c := [q]) h
theorem mw_D {A : Nat → Prop} {x y z q : Nat × va_E} {wa wb : va_W} (h : va_D A (x :: y :: z :: ((wa ++ wb) ++ [q]))) : va_D A (x :: y :: z :: ((wa ++ [q]) ++ wb)) := va_D.swap (a := x :: y :: z :: wa) (b := wb) (c := [q]) h
set_option maxHeartbeats 4000000 in
set_option maxRecDepth 100000 in
theorem t_V_firstDueDay (l : Launch) (D : va_G) (cM cG cI cJ : ClassId) (h : Nat) (F : Nat → Nat → Int32) (i : Nat) (a : Int32) : Met l y_V_firstDueDay (Cond.code y_V_firstDueDay c_V_firstDueDay 4 (some .int) :: tw_L) ({ frames := 0, cells := 0, slots := 0, locals := 0 } : Room) (pu_P (fun U H => va_P D cl_L [(h, .inr (1, mv_L F i))] H ∧ sa_P no_A U H) (yt_P D cM cG cI cJ) [.ref h, .int a]) (vp_Si (fun r => r = fd_I (F 2 i) a)) 0 0 no_A := by
  refine Met.ofW (cc := c_V_firstDueDay) (maxL := 4) (ret := (some .int)) (by decide) rfl ?_
  intro p e s m args below meth c s₁ B hml hv
  obtain ⟨rfl, hX, hY⟩ := hv
  have hx := B.exec
  have hb := B.bytes
  have hr := B.returns
  have htw : ∀ w ∈ tw_L, w.before _ s = true := fun w hw => atoms_spec (ws := (Cond.code y_V_firstDueDay c_V_firstDueDay 4 (some .int) :: tw_L)) B.pre w (List.mem_cons_of_mem _ hw)
  have hown : s.vm.findClass R_V = some m.cls := findClass_of_methodNamed B.named
  have hlocks := B.notSynchronized
  have hC : CallFix p m c c_V_firstDueDay 4 s _ tw_L R_V := ⟨hx, hb, hml, hown, htw⟩
  have hK := hY.1
  have hl := lv_entry ([.ref h, .int a]) (n := 4) (Nat.le_of_ble_eq_true rfl)
  rw [lg_entry_eq]
  generalize (lg_sl ([.ref h, .int a]) ++ List.replicate (4 - (lg_sl ([.ref h, .int a])).length) Slot.unset).toArray = ls at hl ⊢
  have hl : lv_has ls 4 [(0, .ref h), (1, .int a)] := hl
  have hP := hX.1
  obtain ⟨t5, hZ5, hT5⟩ := hX.2
  refine lv_iconst (v := 0) hx hb d_V_firstDueDay_0 (by decide) ?_
  refine lv_istore_n (lv' := [(2, .int 0), (0, .ref h), (1, .int a)]) hx hb d_V_firstDueDay_1 rfl hl (by decide) rfl (fun ls hl => ?_)
  refine lv_iload_n hx hb d_V_firstDueDay_2 rfl (lv_at hl 0 rfl) ?_
  refine va_getsN (A := no_A) hx hb hZ5 va_S.rf hown (va_Nw.use rfl hY.2.2.1) (fun _ h9 => h9) d_V_firstDueDay_3 ?_
  refine va_tlen (v := 4) hx hb hT5 va_S.rf rfl d_V_firstDueDay_6 ?_
  refine lv_icmp_ge (tgt := 34) hx hb d_V_firstDueDay_7 (by decide) (fun c1 => absurd c1 (by decide)) (fun _ => ?_)
  refine lv_aload_n hx hb d_V_firstDueDay_10 rfl (lv_at hl 1 rfl) ?_
  refine va_get (D := D) (C := R_V) (T := F_V) (N := 19) hx hb htw uw_V hown hK hP 0 rfl rfl 2 (by decide) (htw _ k_V_58) (fun _ h9 => h9) rfl d_V_firstDueDay_11 ?_
  refine va_getsN (A := no_A) hx hb hZ5 va_S.rf hown (va_Nw.use rfl hY.2.2.1) (fun _ h9 => h9) d_V_firstDueDay_14 ?_
  refine lv_iload_n hx hb d_V_firstDueDay_17 rfl (lv_at hl 0 rfl) ?_
  refine va_ti (v := .int 10) hx hb hT5 va_S.rf (vp_in_nI (n := 0) (by decide) (by decide)) rfl d_V_firstDueDay_18 ?_
  refine lv_iadd hx hb d_V_firstDueDay_19 ?_
  refine lv_istore_n (lv' := [(3, .int ((F 2 i) + 10)), (2, .int 0), (0, .ref h), (1, .int a)]) hx hb d_V_firstDueDay_20 rfl hl (by decide) rfl (fun ls hl => ?_)
  refine lv_iload_n hx hb d_V_firstDueDay_21 rfl (lv_at hl 0 rfl) ?_
  refine lv_iload_n hx hb d_V_firstDueDay_22 rfl (lv_at hl 3 rfl) ?_
  refine lv_icmp_le (tgt := 28) hx hb d_V_firstDueDay_23 (by decide) (fun c2 => ?_) (fun c2 => ?_)
  · refine lv_iinc (v := 1) (lv' := [(2, .int 1), (3, .int ((F 2 i) + 10)), (0, .ref h), (1, .int a)]) hx hb d_V_firstDueDay_28 hl (k := 1) rfl (by decide) (by decide) rfl (fun ls hl => ?_)
    refine lv_goto (tgt := 2) hx hb d_V_firstDueDay_31 (by decide) ?_
    refine lv_iload_n hx hb d_V_firstDueDay_2 rfl (lv_at hl 0 rfl) ?_
    refine va_getsN (A := no_A) hx hb hZ5 va_S.rf hown (va_Nw.use rfl hY.2.2.1) (fun _ h9 => h9) d_V_firstDueDay_3 ?_
    refine va_tlen (v := 4) hx hb hT5 va_S.rf rfl d_V_firstDueDay_6 ?_
    refine lv_icmp_ge (tgt := 34) hx hb d_V_firstDueDay_7 (by decide) (fun c3 => absurd c3 (by decide)) (fun _ => ?_)
    refine lv_aload_n hx hb d_V_firstDueDay_10 rfl (lv_at hl 2 rfl) ?_
    refine va_get (D := D) (C := R_V) (T := F_V) (N := 19) hx hb htw uw_V hown hK hP 0 rfl rfl 2 (by decide) (htw _ k_V_58) (fun _ h9 => h9) rfl d_V_firstDueDay_11 ?_
    refine va_getsN (A := no_A) hx hb hZ5 va_S.rf hown (va_Nw.use rfl hY.2.2.1) (fun _ h9 => h9) d_V_firstDueDay_14 ?_
    refine lv_iload_n hx hb d_V_firstDueDay_17 rfl (lv_at hl 0 rfl) ?_
    refine va_ti (v := .int 15) hx hb hT5 va_S.rf (vp_in_nI (n := 1) (by decide) (by decide)) rfl d_V_firstDueDay_18 ?_
    refine lv_iadd hx hb d_V_firstDueDay_19 ?_
    refine lv_istore_n (lv' := [(3, .int ((F 2 i) + 15)), (2, .int 1), (0, .ref h), (1, .int a)]) hx hb d_V_firstDueDay_20 rfl hl (by decide) rfl (fun ls hl => ?_)
    refine lv_iload_n hx hb d_V_firstDueDay_21 rfl (lv_at hl 0 rfl) ?_
    refine lv_iload_n hx hb d_V_firstDueDay_22 rfl (lv_at hl 3 rfl) ?_
    refine lv_icmp_le (tgt := 28) hx hb d_V_firstDueDay_23 (by decide) (fun c4 => ?_) (fun c4 => ?_)
    · refine lv_iinc (v := 2) (lv' := [(2, .int 2), (3, .int ((F 2 i) + 15)), (0, .ref h), (1, .int a)]) hx hb d_V_firstDueDay_28 hl (k := 1) rfl (by decide) (by decide) rfl (fun ls hl => ?_)
      refine lv_goto (tgt := 2) hx hb d_V_firstDueDay_31 (by decide) ?_
      refine lv_iload_n hx hb d_V_firstDueDay_2 rfl (lv_at hl 0 rfl) ?_
      refine va_getsN (A := no_A) hx hb hZ5 va_S.rf hown (va_Nw.use rfl hY.2.2.1) (fun _ h9 => h9) d_V_firstDueDay_3 ?_
      refine va_tlen (v := 4) hx hb hT5 va_S.rf rfl d_V_firstDueDay_6 ?_
      refine lv_icmp_ge (tgt := 34) hx hb d_V_firstDueDay_7 (by decide) (fun c5 => absurd c5 (by decide)) (fun _ => ?_)
      refine lv_aload_n hx hb d_V_firstDueDay_10 rfl (lv_at hl 2 rfl) ?_
      refine va_get (D := D) (C := R_V) (T := F_V) (N := 19) hx hb htw uw_V hown hK hP 0 rfl rfl 2 (by decide) (htw _ k_V_58) (fun _ h9 => h9) rfl d_V_firstDueDay_11 ?_
      refine va_getsN (A := no_A) hx hb hZ5 va_S.rf hown (va_Nw.use rfl hY.2.2.1) (fun _ h9 => h9) d_V_firstDueDay_14 ?_
      refine lv_iload_n hx hb d_V_firstDueDay_17 rfl (lv_at hl 0 rfl) ?_
      refine va_ti (v := .int 20) hx hb hT5 va_S.rf (vp_in_nI (n := 2) (by decide) (by decide)) rfl d_V_firstDueDay_18 ?_
      refine lv_iadd hx hb d_V_firstDueDay_19 ?_
      refine lv_istore_n (lv' := [(3, .int ((F 2 i) + 20)), (2, .int 2), (0, .ref h), (1, .int a)]) hx hb d_V_firstDueDay_20 rfl hl (by decide) rfl (fun ls hl => ?_)
      refine lv_iload_n hx hb d_V_firstDueDay_21 rfl (lv_at hl 0 rfl) ?_
      refine lv_iload_n hx hb d_V_firstDueDay_22 rfl (lv_at hl 3 rfl) ?_
      refine lv_icmp_le (tgt := 28) hx hb d_V_firstDueDay_23 (by decide) (fun c6 => ?_) (fun c6 => ?_)
      · refine lv_iinc (v := 3) (lv' := [(2, .int 3), (3, .int ((F 2 i) + 20)), (0, .ref h), (1, .int a)]) hx hb d_V_firstDueDay_28 hl (k := 1) rfl (by decide) (by decide) rfl (fun ls hl => ?_)
        refine lv_goto (tgt := 2) hx hb d_V_firstDueDay_31 (by decide) ?_
        refine lv_iload_n hx hb d_V_firstDueDay_2 rfl (lv_at hl 0 rfl) ?_
        refine va_getsN (A := no_A) hx hb hZ5 va_S.rf hown (va_Nw.use rfl hY.2.2.1) (fun _ h9 => h9) d_V_firstDueDay_3 ?_
        refine va_tlen (v := 4) hx hb hT5 va_S.rf rfl d_V_firstDueDay_6 ?_
        refine lv_icmp_ge (tgt := 34) hx hb d_V_firstDueDay_7 (by decide) (fun c7 => absurd c7 (by decide)) (fun _ => ?_)
        refine lv_aload_n hx hb d_V_firstDueDay_10 rfl (lv_at hl 2 rfl) ?_
        refine va_get (D := D) (C := R_V) (T := F_V) (N := 19) hx hb htw uw_V hown hK hP 0 rfl rfl 2 (by decide) (htw _ k_V_58) (fun _ h9 => h9) rfl d_V_firstDueDay_11 ?_
        refine va_getsN (A := no_A) hx hb hZ5 va_S.rf hown (va_Nw.use rfl hY.2.2.1) (fun _ h9 => h9) d_V_firstDueDay_14 ?_
        refine lv_iload_n hx hb d_V_firstDueDay_17 rfl (lv_at hl 0 rfl) ?_
        refine va_ti (v := .int 40) hx hb hT5 va_S.rf (vp_in_nI (n := 3) (by decide) (by decide)) rfl d_V_firstDueDay_18 ?_
        refine lv_iadd hx hb d_V_firstDueDay_19 ?_
        refine lv_istore_n (lv' := [(3, .int ((F 2 i) + 40)), (2, .int 3), (0, .ref h), (1, .int a)]) hx hb d_V_firstDueDay_20 rfl hl (by decide) rfl (fun ls hl => ?_)
        refine lv_iload_n hx hb d_V_firstDueDay_21 rfl (lv_at hl 0 rfl) ?_
        refine lv_iload_n hx hb d_V_firstDueDay_22 rfl (lv_at hl 3 rfl) ?_
        refine lv_icmp_le (tgt := 28) hx hb d_V_firstDueDay_23 (by decide) (fun c8 => ?_) (fun c8 => ?_)
        · refine lv_iinc (v := 4) (lv' := [(2, .int 4), (3, .int ((F 2 i) + 40)), (0, .ref h), (1, .int a)]) hx hb d_V_firstDueDay_28 hl (k := 1) rfl (by decide) (by decide) rfl (fun ls hl => ?_)
          refine lv_goto (tgt := 2) hx hb d_V_firstDueDay_31 (by decide) ?_
          refine lv_iload_n hx hb d_V_firstDueDay_2 rfl (lv_at hl 0 rfl) ?_
          refine va_getsN (A := no_A) hx hb hZ5 va_S.rf hown (va_Nw.use rfl hY.2.2.1) (fun _ h9 => h9) d_V_firstDueDay_3 ?_
          refine va_tlen (v := 4) hx hb hT5 va_S.rf rfl d_V_firstDueDay_6 ?_
          refine lv_icmp_ge (tgt := 34) hx hb d_V_firstDueDay_7 (by decide) (fun _ => ?_) (fun c9 => absurd (by decide) c9)
          refine lv_sipush (v := 10001) hx hb d_V_firstDueDay_34 (by decide) ?_
          exact W.iret (v := 10001) hx hb hr (fun t ht hW => ⟨_, rfl, (by simp only [fd_I]; rw [if_pos c2, if_pos c4, if_pos c6, if_pos c8]), ht⟩) (fun q h => nomatch h) d_V_firstDueDay_37
        · refine lv_iload_n hx hb d_V_firstDueDay_26 rfl (lv_at hl 0 rfl) ?_
          exact W.iret (v := ((F 2 i) + 40)) hx hb hr (fun t ht hW => ⟨_, rfl, (by simp only [fd_I]; rw [if_pos c2, if_pos c4, if_pos c6, if_neg c8]), ht⟩) (fun q h => nomatch h) d_V_firstDueDay_27
      · refine lv_iload_n hx hb d_V_firstDueDay_26 rfl (lv_at hl 0 rfl) ?_
        exact W.iret (v := ((F 2 i) + 20)) hx hb hr (fun t ht hW => ⟨_, rfl, (by simp only [fd_I]; rw [if_pos c2, if_pos c4, if_neg c6]), ht⟩) (fun q h => nomatch h) d_V_firstDueDay_27
    · refine lv_iload_n hx hb d_V_firstDueDay_26 rfl (lv_at hl 0 rfl) ?_
      exact W.iret (v := ((F 2 i) + 15)) hx hb hr (fun t ht hW => ⟨_, rfl, (by simp only [fd_I]; rw [if_pos c2, if_neg c4]), ht⟩) (fun q h => nomatch h) d_V_firstDueDay_27
  · refine lv_iload_n hx hb d_V_firstDueDay_26 rfl (lv_at hl 0 rfl) ?_
    exact W.iret (v := ((F 2 i) + 10)) hx hb hr (fun t ht hW => ⟨_, rfl, (by simp only [fd_I]; rw [if_neg c2]), ht⟩) (fun q h => nomatch h) d_V_firstDueDay_27
set_option maxHeartbeats 4000000 in
set_option maxRecDepth 100000 in
theorem t_V_isDueOn (l : Launch) (D : va_G) (cM cG cI cJ : ClassId) (h : Nat) (F : Nat → Nat → Int32) (i : Nat) (a : Int32) : Met l y_V_isDueOn (Cond.code y_V_isDueOn c_V_isDueOn 2 (some .boolean) :: tw_L) ({ frames := 1, cells := 0, slots := 0, locals := 23 } : Room) (pu_P (fun U H => va_P D cl_L [(h, .inr (1, mv_L F i))] H ∧ sa_P no_A U H) (yt_P D cM cG cI cJ) [.ref h, .int a]) (vp_Si (fun r => (r = 1 ∧ fd_I (F 2 i) (a - 1) = a) ∨ (r = 0 ∧ ¬ fd_I (F 2 i) (a - 1) = a))) 0 0 no_A := by
  refine Met.ofW (cc := c_V_isDueOn) (maxL := 2) (ret := (some .boolean)) (by decide) rfl ?_
  intro p e s m args below meth c s₁ B hml hv
  obtain ⟨rfl, hX, hY⟩ := hv
  have hx := B.exec
  have hb := B.bytes
  have hr := B.returns
  have htw : ∀ w ∈ tw_L, w.before _ s = true := fun w hw => atoms_spec (ws := (Cond.code y_V_isDueOn c_V_isDueOn 2 (some .boolean) :: tw_L)) B.pre w (List.mem_cons_of_mem _ hw)
  have hown : s.vm.findClass R_V = some m.cls := findClass_of_methodNamed B.named
  have hlocks := B.notSynchronized
  have hC : CallFix p m c c_V_isDueOn 2 s _ tw_L R_V := ⟨hx, hb, hml, hown, htw⟩
  have hK := hY.1
  have hl := lv_entry ([.ref h, .int a]) (n := 2) (Nat.le_of_ble_eq_true rfl)
  rw [lg_entry_eq]
  generalize (lg_sl ([.ref h, .int a]) ++ List.replicate (2 - (lg_sl ([.ref h, .int a])).length) Slot.unset).toArray = ls at hl ⊢
  have hl : lv_has ls 2 [(0, .ref h), (1, .int a)] := hl
  have hP := hX.1
  refine lv_aload_n hx hb d_V_isDueOn_0 rfl (lv_at hl 0 rfl) ?_
  refine lv_iload_n hx hb d_V_isDueOn_1 rfl (lv_at hl 1 rfl) ?_
  refine lv_iconst (v := 1) hx hb d_V_isDueOn_2 (by decide) ?_
  refine lv_isub hx hb d_V_isDueOn_3 ?_
  refine cp_V (n := 1) [.int (a - 1)] hC (t_V_firstDueDay l D cM cG cI cJ h F i (a - 1)) ⟨kc_V_firstDueDay, kn_V, k_V_82, ki_V_firstDueDay, kv_V_firstDueDay⟩ (by decide +kernel) ⟨rfl, rfl, Nat.le_of_ble_eq_true rfl, Nat.le_of_ble_eq_true rfl⟩ sa_2 (yt_Y D cM cG cI cJ) hY hX (va_recv hK hP (ci := 1) (q0 := 0) rfl rfl) rfl hl.1 rfl (Nat.le_of_ble_eq_true rfl) d_V_isDueOn_4 ⟨Nat.le_of_ble_eq_true rfl, Nat.le_of_ble_eq_true rfl⟩ (fun r1 h2 => ?_)
  subst h2
  refine lv_iload_n hx hb d_V_isDueOn_7 rfl (lv_at hl 1 rfl) ?_
  refine lv_icmp_ne (tgt := 15) hx hb d_V_isDueOn_8 (by decide) (fun c3 => ?_) (fun c3 => ?_)
  · refine lv_iconst (v := 0) hx hb d_V_isDueOn_15 (by decide) ?_
    exact W.zret (v := 0) hx hb hr (by decide) (fun t ht hW => ⟨_, rfl, Or.inr ⟨rfl, c3⟩, ht⟩) (fun q h => nomatch h) d_V_isDueOn_16
  · refine lv_iconst (v := 1) hx hb d_V_isDueOn_11 (by decide) ?_
    refine lv_goto (tgt := 16) hx hb d_V_isDueOn_12 (by decide) ?_
    exact W.zret (v := 1) hx hb hr (by decide) (fun t ht hW => ⟨_, rfl, Or.inl ⟨rfl, c3⟩, ht⟩) (fun q h => nomatch h) d_V_isDueOn_16
set_option maxHeartbeats 4000000 in
set_option maxRecDepth 100000 in
theorem t_T_nextDueDay (l : Launch) (D : va_G) (cM cG cI cJ : ClassId) (o am ag : Nat) (pm pg : Nat → Nat) (off : Int32) (nm ng : Nat) (now : Int32) (F : Nat → Nat → Int32) (R : Nat → Int32) (x : Int32) (hn20 : nm ≤ 20) : Met l y_T_nextDueDay (Cond.code y_T_nextDueDay c_T_nextDueDay 5 (some .int) :: tw_L) ({ frames := 1, cells := 0, slots := 0, locals := 23 } : Room) (pu_P (fun U H => va_P D cl_L (ws_C cM cG o am ag pm pg (off, nm, ng, now, F, R)) H ∧ sa_P no_A U H) (yt_P D cM cG cI cJ) [.ref o, .int x]) (vp_Si (fun r => r = nd_I F x nm)) 0 0 no_A := by
  refine Met.ofW (cc := c_T_nextDueDay) (maxL := 5) (ret := (some .int)) (by decide) rfl ?_
  intro p e s m args below meth c s₁ B hml hv
  obtain ⟨rfl, hX, hY⟩ := hv
  have hx := B.exec
  have hb := B.bytes
  have hr := B.returns
  have htw : ∀ w ∈ tw_L, w.before _ s = true := fun w hw => atoms_spec (ws := (Cond.code y_T_nextDueDay c_T_nextDueDay 5 (some .int) :: tw_L)) B.pre w (List.mem_cons_of_mem _ hw)
  have hown : s.vm.findClass R_T = some m.cls := findClass_of_methodNamed B.named
  have hlocks := B.notSynchronized
  have hC : CallFix p m c c_T_nextDueDay 5 s _ tw_L R_T := ⟨hx, hb, hml, hown, htw⟩
  have hK := hY.1
  have hl := lv_entry ([.ref o, .int x]) (n := 5) (Nat.le_of_ble_eq_true rfl)
  rw [lg_entry_eq]
  generalize (lg_sl ([.ref o, .int x]) ++ List.replicate (5 - (lg_sl ([.ref o, .int x])).length) Slot.unset).toArray = ls at hl ⊢
  have hl : lv_has ls 5 [(0, .ref o), (1, .int x)] := hl
  have hP := hX.1
  refine lv_sipush (v := 10001) hx hb d_T_nextDueDay_0 (by decide) ?_
  refine lv_istore_n (lv' := [(2, .int 10001), (0, .ref o), (1, .int x)]) hx hb d_T_nextDueDay_3 rfl hl (by decide) rfl (fun ls hl => ?_)
  refine lv_iconst (v := 0) hx hb d_T_nextDueDay_4 (by decide) ?_
  refine lv_istore_n (lv' := [(3, .int 0), (2, .int 10001), (0, .ref o), (1, .int x)]) hx hb d_T_nextDueDay_5 rfl hl (by decide) rfl (fun ls hl => ?_)
  replace hl : lv_has ls 5 [(0, .ref o), (1, .int x), (2, .int (nd_I F x 0)), (3, .int (nI 0))] := lv_sub hl [2, 3, 1, 0] rfl
  obtain ⟨k, q, hk, hq, hl9⟩ : ∃ k q : Nat, k ≤ 20 ∧ ((k ≤ nm ∧ q = k) ∨ (nm ≤ k ∧ q = nm)) ∧ lv_has ls 5 [(0, .ref o), (1, .int x), (2, .int (nd_I F x q)), (3, .int (nI k))] := ⟨0, 0, Nat.zero_le _, Or.inl ⟨Nat.zero_le _, rfl⟩, hl⟩
  clear hl
  have hl := hl9
  clear hl9
  obtain ⟨n9, hn9⟩ : ∃ n9 : Nat, 20 + 1 ≤ k + n9 := ⟨20 + 1, by omega⟩
  induction n9 generalizing k q ls with
  | zero => exfalso; omega
  | succ n9 ih =>
    refine lv_iload_n hx hb d_T_nextDueDay_6 rfl (lv_at hl 3 rfl) ?_
    refine lv_aload_n hx hb d_T_nextDueDay_7 rfl (lv_at hl 0 rfl) ?_
    refine va_get (D := D) (C := R_T) (T := F_T) (N := 6) hx hb htw uw_T hown hK hP 0 rfl rfl 1 (by decide) (htw _ k_T_11) (fun _ h9 => h9) rfl d_T_nextDueDay_8 ?_
    refine va_alen (v := 20) hx hb hK hP 1 0 rfl rfl rfl d_T_nextDueDay_11 ?_
    refine lv_icmp_ge (tgt := 45) hx hb d_T_nextDueDay_12 (by decide) (fun c1 => ?_) (fun c1 => ?_)
    · have hqn : q = nm := by have := lp_ge (n := 20) c1 (by omega); omega
      rw [hqn] at hl
      refine lv_iload_n hx hb d_T_nextDueDay_45 rfl (lv_at hl 2 rfl) ?_
      exact W.iret (v := (nd_I F x nm)) hx hb hr (fun t ht hW => ⟨_, rfl, rfl, ht⟩) (fun q h => nomatch h) d_T_nextDueDay_46
    · have hk9 : k < 20 := lp_lt (n := 20) c1 (by omega)
      refine lv_aload_n hx hb d_T_nextDueDay_15 rfl (lv_at hl 0 rfl) ?_
      refine va_get (D := D) (C := R_T) (T := F_T) (N := 6) hx hb htw uw_T hown hK hP 0 rfl rfl 1 (by decide) (htw _ k_T_11) (fun _ h9 => h9) rfl d_T_nextDueDay_16 ?_
      refine lv_iload_n hx hb d_T_nextDueDay_19 rfl (lv_at hl 3 rfl) ?_
      refine va_aldq hx hb hK hP 1 0 rfl rfl (vp_in_nI hk9 (by decide)) d_T_nextDueDay_20 ?_
      rw [nI_clamp (Nat.lt_trans hk9 (by decide))]
      by_cases hkn : k < nm
      · rw [rf_at hkn]
        refine W.eq (g2 := F0 m 21 ls (.ref (pm k) :: [])) rfl ?_
        have hqk : q = k := by omega
        rw [hqk] at hl
        refine lv_astore (lv' := [(4, .ref (pm k)), (0, .ref o), (1, .int x), (2, .int (nd_I F x k)), (3, .int (nI k))]) hx hb d_T_nextDueDay_21 hl (by decide) rfl (fun ls hl => ?_)
        refine lv_aload hx hb d_T_nextDueDay_23 (lv_at hl 0 rfl) ?_
        refine lv_ifnull hx hb d_T_nextDueDay_25 ?_
        refine lv_iload_n hx hb d_T_nextDueDay_28 rfl (lv_at hl 3 rfl) ?_
        refine lv_aload hx hb d_T_nextDueDay_29 (lv_at hl 0 rfl) ?_
        refine lv_iload_n hx hb d_T_nextDueDay_31 rfl (lv_at hl 2 rfl) ?_
        refine cp_V (n := 1) [.int x] hC (t_V_firstDueDay l D cM cG cI cJ (pm k) F k x) ⟨kc_V_firstDueDay, kn_V, k_T_224, ki_V_firstDueDay, kv_V_firstDueDay⟩ (by decide +kernel) ⟨rfl, rfl, Nat.le_of_ble_eq_true rfl, Nat.le_of_ble_eq_true rfl⟩ sa_2 (yt_Y D cM cG cI cJ) hY ⟨(wk_1 hP (mv_at hkn)), hX.2⟩ (va_recv hK hP (ci := 1) (q0 := (k + 3)) rfl (mv_at hkn)) rfl hl.1 rfl (Nat.le_of_ble_eq_true rfl) d_T_nextDueDay_32 ⟨Nat.le_of_ble_eq_true rfl, Nat.le_of_ble_eq_true rfl⟩ (fun r2 h3 => ?_)
        subst h3
        refine va_mmin hx hb (hml.trans hl.1.symm) hown (htw _ k_T_227) (htw _ ks_min) (htw _ kn_Math) (htw _ kc_min) (Nat.le_of_ble_eq_true rfl) (Nat.le_of_ble_eq_true rfl) (Nat.le_of_ble_eq_true rfl) (Nat.le_of_ble_eq_true rfl) d_T_nextDueDay_35 ?_
        refine lv_istore_n (lv' := [(2, .int (mn_I (nd_I F x k) (fd_I (F 2 k) x))), (4, .ref (pm k)), (0, .ref o), (1, .int x), (3, .int (nI k))]) hx hb d_T_nextDueDay_38 rfl hl (by decide) rfl (fun ls hl => ?_)
        refine lv_iinc (v := nI (k + 1)) (lv' := [(3, .int (nI (k + 1))), (2, .int (mn_I (nd_I F x k) (fd_I (F 2 k) x))), (4, .ref (pm k)), (0, .ref o), (1, .int x)]) hx hb d_T_nextDueDay_39 hl (k := 4) rfl (nI_1 k) (by decide) rfl (fun ls hl => ?_)
        refine lv_goto (tgt := 6) hx hb d_T_nextDueDay_42 (by decide) ?_
        exact ih ls (k + 1) (k + 1) (by omega) (Or.inl ⟨by omega, rfl⟩) (lv_sub hl [3, 4, 1, 0] rfl) (by omega)
      · rw [rf_no (Nat.not_lt.mp hkn)]
        refine W.eq (g2 := F0 m 21 ls (.null :: [])) rfl ?_
        refine lv_astoreN (lv' := [(4, .null), (0, .ref o), (1, .int x), (2, .int (nd_I F x q)), (3, .int (nI k))]) hx hb d_T_nextDueDay_21 hl (by decide) rfl (fun ls hl => ?_)
        refine lv_aloadN hx hb d_T_nextDueDay_23 (lv_at hl 0 rfl) ?_
        refine lv_ifnullN (tgt := 39) hx hb d_T_nextDueDay_25 (by decide) ?_
        refine lv_iinc (v := nI (k + 1)) (lv' := [(3, .int (nI (k + 1))), (4, .null), (0, .ref o), (1, .int x), (2, .int (nd_I F x q))]) hx hb d_T_nextDueDay_39 hl (k := 4) rfl (nI_1 k) (by decide) rfl (fun ls hl => ?_)
        refine lv_goto (tgt := 6) hx hb d_T_nextDueDay_42 (by decide) ?_
        exact ih ls (k + 1) q (by omega) (Or.inr ⟨by omega, by omega⟩) (lv_sub hl [2, 3, 4, 0] rfl) (by omega)
theorem lp_lt2 {n : Nat} (h : nI n < 20) (hn : n ≤ 20) : n < 20 := by
  rw [i_lt, i_nI (by omega)] at h
  have e : (20 : Int32).toInt = 20 := rfl
  omega
theorem lp_20 {n : Nat} (h : ¬ nI n < 20) (hn : n ≤ 20) : n = 20 := by
  rw [i_lt, i_nI (by omega)] at h
  have e : (20 : Int32).toInt = 20 := rfl
  omega
set_option maxHeartbeats 4000000 in
set_option maxRecDepth 100000 in
theorem t_T_movement (l : Launch) (D : va_G) (cM cG cI cJ : ClassId) (o am ag : Nat) (pm pg : Nat → Nat) (off : Int32) (nm ng : Nat) (now : Int32) (F : Nat → Nat → Int32) (R : Nat → Int32) (sz : Nat) (a : Int32) (b : Int32) (d9 : Int32) (s9 : Int32) (n9 : Int32) (v9 : Int32) (hl0 : l.stackTraces = false) (t9 : Nat) (hI : iv_S t9 (off, nm, ng, now, F, R)) : vx_Met l y_T_movement (Cond.code y_T_movement c_T_movement 8 (some .int) :: tw_L) ({ frames := 6, cells := 2, slots := 26, locals := 82 } : Room) (mu_P D (ws_C cM cG o am ag pm pg (off, nm, ng, now, F, R)) sz (sx_P (va_A (ws_C cM cG o am ag pm pg (off, nm, ng, now, F, R)) sz)) (yt_P D cM cG cI cJ) [.ref o, .int a, .int b, .int d9, .int s9, .int n9, .int v9]) (va_Qi (fun (r : Int32) (_ : ((Nat → Nat) × (Nat → Nat))) => (sp_mv (off, nm, ng, now, F, R) a b d9 s9 n9 v9).1 = 0 ∧ r = (sp_mv (off, nm, ng, now, F, R) a b d9 s9 n9 v9).2.1) (mu_B D (ws_C cM cG o am ag pm pg (off, nm, ng, now, F, R)) sz (fun pg1 => ws_C cM cG o am ag pg1.1 pg1.2 (sp_mv (off, nm, ng, now, F, R) a b d9 s9 n9 v9).2.2)) (va_A (ws_C cM cG o am ag pm pg (off, nm, ng, now, F, R)) sz)) (vx_X (fun _ : Unit => True) (fun E _ _ => (E = "java/lang/IllegalArgumentException" ∧ (sp_mv (off, nm, ng, now, F, R) a b d9 s9 n9 v9).1 = 1) ∨ (E = "java/lang/IllegalStateException" ∧ (sp_mv (off, nm, ng, now, F, R) a b d9 s9 n9 v9).1 = 2)) (fun q => sz ≤ q)) 2 26 (va_A (ws_C cM cG o am ag pm pg (off, nm, ng, now, F, R)) sz) := by
  refine vx_ofW (cc := c_T_movement) (maxL := 8) (ret := (some .int)) (by decide) rfl ?_
  intro p e s m args below meth c s₁ B hml hne hv
  obtain ⟨rfl, hsz, hP, hD0, hX, hY⟩ := hv
  have hx := B.exec
  have hb := B.bytes
  have hr := B.returns
  have htw : ∀ w ∈ tw_L, w.before _ s = true := fun w hw => atoms_spec (ws := (Cond.code y_T_movement c_T_movement 8 (some .int) :: tw_L)) B.pre w (List.mem_cons_of_mem _ hw)
  have hown : s.vm.findClass R_T = some m.cls := findClass_of_methodNamed B.named
  have hlocks := B.notSynchronized
  have hC : CallFix p m c c_T_movement 8 s _ tw_L R_T := ⟨hx, hb, hml, hown, htw⟩
  have hK := hY.1
  have hl := lv_entry ([.ref o, .int a, .int b, .int d9, .int s9, .int n9, .int v9]) (n := 8) (Nat.le_of_ble_eq_true rfl)
  rw [lg_entry_eq]
  generalize (lg_sl ([.ref o, .int a, .int b, .int d9, .int s9, .int n9, .int v9]) ++ List.replicate (8 - (lg_sl ([.ref o, .int a, .int b, .int d9, .int s9, .int n9, .int v9])).length) Slot.unset).toArray = ls at hl ⊢
  have hl : lv_has ls 8 [(0, .ref o), (1, .int a), (2, .int b), (3, .int d9), (4, .int s9), (5, .int n9), (6, .int v9)] := hl
  subst hsz
  obtain ⟨A, hAe⟩ : ∃ A : Nat → Prop, A = va_A (ws_C cM cG o am ag pm pg (off, nm, ng, now, F, R)) s.heap.size := ⟨_, rfl⟩
  have hD : va_D A (ws_C cM cG o am ag pm pg (off, nm, ng, now, F, R)) := by rw [hAe]; exact hD0.self
  have hA : ∀ q : Nat, s.heap.size ≤ q → A q := fun q h => by rw [hAe]; exact Or.inr h
  have hS : va_S A s.heap s.heap [] := va_S.rf
  have hXs : sx_P A s s.heap := by rw [hAe]; exact hX
  obtain ⟨hof, hn20, hnow, ht4, hM, hZ, hG, hcn⟩ := id hI
  have hg200 : ng ≤ 200 := by have := cn_0 hM hcn; omega
  refine lv_aload_n hx hb d_T_movement_0 rfl (lv_at hl 0 rfl) ?_
  refine lv_iload_n hx hb d_T_movement_1 rfl (lv_at hl 1 rfl) ?_
  refine cp_V (n := 1) [.int a] hC (t_T_isOffice l D cM cG cI cJ o am ag pm pg off nm ng now F R a) ⟨kc_T_isOffice, kn_T, k_T_34, ki_T_isOffice, kv_T_isOffice⟩ (by decide +kernel) ⟨rfl, rfl, Nat.le_of_ble_eq_true rfl, Nat.le_of_ble_eq_true rfl⟩ x_0 (yt_Y D cM cG cI cJ) hY hP (va_recv hK hP (ci := 0) (q0 := 0) rfl rfl) rfl hl.1 rfl (Nat.le_of_ble_eq_true rfl) d_T_movement_2 ⟨Nat.le_of_ble_eq_true rfl, Nat.le_of_ble_eq_true rfl⟩ (fun r1 h2 => ?_)
  rcases h2 with ⟨rfl, b3⟩ | ⟨rfl, b3⟩
  · refine lv_if_eq (tgt := 21) hx hb d_T_movement_5 (by decide) (fun q9 => absurd q9 (by decide)) (fun _ => ?_)
    refine lv_aload_n hx hb d_T_movement_8 rfl (lv_at hl 0 rfl) ?_
    refine lv_iload_n hx hb d_T_movement_9 rfl (lv_at hl 2 rfl) ?_
    refine cp_V (n := 1) [.int b] hC (t_T_isOffice l D cM cG cI cJ o am ag pm pg off nm ng now F R b) ⟨kc_T_isOffice, kn_T, k_T_34, ki_T_isOffice, kv_T_isOffice⟩ (by decide +kernel) ⟨rfl, rfl, Nat.le_of_ble_eq_true rfl, Nat.le_of_ble_eq_true rfl⟩ x_0 (yt_Y D cM cG cI cJ) hY hP (va_recv hK hP (ci := 0) (q0 := 0) rfl rfl) rfl hl.1 rfl (Nat.le_of_ble_eq_true rfl) d_T_movement_10 ⟨Nat.le_of_ble_eq_true rfl, Nat.le_of_ble_eq_true rfl⟩ (fun r4 h5 => ?_)
    rcases h5 with ⟨rfl, b6⟩ | ⟨rfl, b6⟩
    · refine lv_if_eq (tgt := 21) hx hb d_T_movement_13 (by decide) (fun q9 => absurd q9 (by decide)) (fun _ => ?_)
      refine lv_iload_n hx hb d_T_movement_16 rfl (lv_at hl 1 rfl) ?_
      refine lv_iload_n hx hb d_T_movement_17 rfl (lv_at hl 2 rfl) ?_
      refine lv_icmp_ne (tgt := 31) hx hb d_T_movement_18 (by decide) (fun c7 => ?_) (fun c7 => ?_)
      · refine lv_iload_n hx hb d_T_movement_31 rfl (lv_at hl 3 rfl) ?_
        refine lv_aload_n hx hb d_T_movement_32 rfl (lv_at hl 0 rfl) ?_
        refine va_get (D := D) (C := R_T) (T := F_T) (N := 6) hx hb htw uw_T hown hK hP 0 rfl rfl 5 (by decide) (htw _ k_T_28) (fun _ h9 => h9) rfl d_T_movement_33 ?_
        refine lv_sipush (v := 10000) hx hb d_T_movement_36 (by decide) ?_
        refine cp_S (n := 3) [.int d9, .int now, .int 10000] hC (t_T_isWithin l D cM cG cI cJ d9 now 10000) ⟨kc_T_isWithin, kn_T, k_T_45, ks_T_isWithin⟩ (by decide +kernel) ⟨rfl, rfl, Nat.le_of_ble_eq_true rfl, Nat.le_of_ble_eq_true rfl⟩ x_0 (yt_Y D cM cG cI cJ) hY trivial rfl hl.1 rfl (Nat.le_of_ble_eq_true rfl) d_T_movement_39 ⟨Nat.le_of_ble_eq_true rfl, Nat.le_of_ble_eq_true rfl⟩ (fun r8 h9 => ?_)
        rcases h9 with ⟨rfl, b10⟩ | ⟨rfl, b10⟩
        · refine lv_if_ne (tgt := 55) hx hb d_T_movement_42 (by decide) (fun _ => ?_) (fun q9 => absurd q9 (by decide))
          refine lv_iload hx hb d_T_movement_55 (lv_at hl 4 rfl) ?_
          refine lv_iconst (v := 1) hx hb d_T_movement_57 (by decide) ?_
          refine lv_ldc (v := 1000000000) hx hb hown (htw _ k_T_51) d_T_movement_58 ?_
          refine cp_S (n := 3) [.int s9, .int 1, .int 1000000000] hC (t_T_isWithin l D cM cG cI cJ s9 1 1000000000) ⟨kc_T_isWithin, kn_T, k_T_45, ks_T_isWithin⟩ (by decide +kernel) ⟨rfl, rfl, Nat.le_of_ble_eq_true rfl, Nat.le_of_ble_eq_true rfl⟩ x_0 (yt_Y D cM cG cI cJ) hY trivial rfl hl.1 rfl (Nat.le_of_ble_eq_true rfl) d_T_movement_60 ⟨Nat.le_of_ble_eq_true rfl, Nat.le_of_ble_eq_true rfl⟩ (fun r11 h12 => ?_)
          rcases h12 with ⟨rfl, b13⟩ | ⟨rfl, b13⟩
          · refine lv_if_eq (tgt := 89) hx hb d_T_movement_63 (by decide) (fun q9 => absurd q9 (by decide)) (fun _ => ?_)
            refine lv_iload hx hb d_T_movement_66 (lv_at hl 5 rfl) ?_
            refine lv_iconst (v := 1) hx hb d_T_movement_68 (by decide) ?_
            refine lv_sipush (v := 1000) hx hb d_T_movement_69 (by decide) ?_
            refine cp_S (n := 3) [.int n9, .int 1, .int 1000] hC (t_T_isWithin l D cM cG cI cJ n9 1 1000) ⟨kc_T_isWithin, kn_T, k_T_45, ks_T_isWithin⟩ (by decide +kernel) ⟨rfl, rfl, Nat.le_of_ble_eq_true rfl, Nat.le_of_ble_eq_true rfl⟩ x_0 (yt_Y D cM cG cI cJ) hY trivial rfl hl.1 rfl (Nat.le_of_ble_eq_true rfl) d_T_movement_72 ⟨Nat.le_of_ble_eq_true rfl, Nat.le_of_ble_eq_true rfl⟩ (fun r14 h15 => ?_)
            rcases h15 with ⟨rfl, b16⟩ | ⟨rfl, b16⟩
            · refine lv_if_eq (tgt := 89) hx hb d_T_movement_75 (by decide) (fun q9 => absurd q9 (by decide)) (fun _ => ?_)
              refine lv_iload hx hb d_T_movement_78 (lv_at hl 6 rfl) ?_
              refine lv_iconst (v := 0) hx hb d_T_movement_80 (by decide) ?_
              refine lv_ldc (v := 1000000) hx hb hown (htw _ k_T_52) d_T_movement_81 ?_
              refine cp_S (n := 3) [.int v9, .int 0, .int 1000000] hC (t_T_isWithin l D cM cG cI cJ v9 0 1000000) ⟨kc_T_isWithin, kn_T, k_T_45, ks_T_isWithin⟩ (by decide +kernel) ⟨rfl, rfl, Nat.le_of_ble_eq_true rfl, Nat.le_of_ble_eq_true rfl⟩ x_0 (yt_Y D cM cG cI cJ) hY trivial rfl hl.1 rfl (Nat.le_of_ble_eq_true rfl) d_T_movement_83 ⟨Nat.le_of_ble_eq_true rfl, Nat.le_of_ble_eq_true rfl⟩ (fun r17 h18 => ?_)
              rcases h18 with ⟨rfl, b19⟩ | ⟨rfl, b19⟩
              · refine lv_if_ne (tgt := 99) hx hb d_T_movement_86 (by decide) (fun _ => ?_) (fun q9 => absurd q9 (by decide))
                refine lv_aload_n hx hb d_T_movement_99 rfl (lv_at hl 0 rfl) ?_
                refine va_get (D := D) (C := R_T) (T := F_T) (N := 6) hx hb htw uw_T hown hK hP 0 rfl rfl 3 (by decide) (htw _ k_T_21) (fun _ h9 => h9) rfl d_T_movement_100 ?_
                refine lv_aload_n hx hb d_T_movement_103 rfl (lv_at hl 0 rfl) ?_
                refine va_get (D := D) (C := R_T) (T := F_T) (N := 6) hx hb htw uw_T hown hK hP 0 rfl rfl 1 (by decide) (htw _ k_T_11) (fun _ h9 => h9) rfl d_T_movement_104 ?_
                refine va_alen (v := 20) hx hb hK hP 1 0 rfl rfl rfl d_T_movement_107 ?_
                refine lv_icmp_lt (tgt := 121) hx hb d_T_movement_108 (by decide) (fun c20 => ?_) (fun c20 => ?_)
                · refine lv_aload_n hx hb d_T_movement_121 rfl (lv_at hl 0 rfl) ?_
                  refine va_get (D := D) (C := R_T) (T := F_T) (N := 6) hx hb htw uw_T hown hK hP 0 rfl rfl 3 (by decide) (htw _ k_T_21) (fun _ h9 => h9) rfl d_T_movement_122 ?_
                  refine lv_istore (lv' := [(7, .int (nI nm)), (0, .ref o), (1, .int a), (2, .int b), (3, .int d9), (4, .int s9), (5, .int n9), (6, .int v9)]) hx hb d_T_movement_125 hl (by decide) rfl (fun ls hl => ?_)
                  refine lv_aload_n hx hb d_T_movement_127 rfl (lv_at hl 1 rfl) ?_
                  refine va_get (D := D) (C := R_T) (T := F_T) (N := 6) hx hb htw uw_T hown hK hP 0 rfl rfl 1 (by decide) (htw _ k_T_11) (fun _ h9 => h9) rfl d_T_movement_128 ?_
                  refine lv_iload hx hb d_T_movement_131 (lv_at hl 0 rfl) ?_
                  have hnm : nm < 20 := lp_lt2 c20 hn20
                  refine va_new (ci := 1) (fs := [.int 0, .int 0, .int 0, .int 0, .int 0, .int 0, .int 0, .int 0, .int 0, .int 0, .int 0, .int 0, .int 0, .int 0, .int 0, .int 0, .int 0, .int 0, .int 0]) (C := R_V) (T := F_V) (N := 19) hx hb htw uw_V ft_V tk_V hown (htw _ k_T_9) (htw _ kb_V) (htw _ kn_V) hK hP hD hS hA rfl (by decide) (Nat.le_of_ble_eq_true rfl) (Nat.le_of_ble_eq_true rfl) d_T_movement_133 (fun q H hP hD hS => ?_)
                  refine lv_dup hx hb d_T_movement_136 rfl ?_
                  refine lv_iload_n hx hb d_T_movement_137 rfl (lv_at hl 2 rfl) ?_
                  refine lv_iload_n hx hb d_T_movement_138 rfl (lv_at hl 3 rfl) ?_
                  refine lv_iload_n hx hb d_T_movement_139 rfl (lv_at hl 4 rfl) ?_
                  refine lv_iload hx hb d_T_movement_140 (lv_at hl 5 rfl) ?_
                  refine lv_iload hx hb d_T_movement_142 (lv_at hl 6 rfl) ?_
                  refine lv_iload hx hb d_T_movement_144 (lv_at hl 7 rfl) ?_
                  refine cm_I (n := 6) [.int a, .int b, .int d9, .int s9, .int n9, .int v9] hC (t_V_init l D cM cG cI cJ q _ a b d9 s9 n9 v9) ⟨kc_V_init, kn_V, k_T_60, ki_V_init⟩ rfl (by decide +kernel) ⟨rfl, rfl, Nat.le_of_ble_eq_true rfl, Nat.le_of_ble_eq_true rfl⟩ x_0 (yt_Y D cM cG cI cJ) hY trivial (wk_1 hP sd_last) (wk_1D trivial) hS (wk_F1 hD hS hA sd_last) rfl hl.1 rfl (Nat.le_of_ble_eq_true rfl) d_T_movement_146 (⟨Nat.le_of_ble_eq_true rfl, Nat.le_of_ble_eq_true rfl⟩) (fun _ H locs _ hP1 hD1 hz9 hk9 hS => ?_)
                  obtain ⟨hP, hD⟩ := jn_1 hP hD sd_last hk9 hP1
                  rw [sd_set] at hP hD
                  refine va_astq hx hb hK hP hD hS 1 0 _ 1 rfl rfl sd_last rfl (vp_in_nI hnm (by decide)) d_T_movement_149 (fun H locs hP hD hS => ?_)
                  rw [nI_clamp (Nat.lt_trans hnm (by decide))] at hP hD
                  refine lv_aload_n hx hb d_T_movement_150 rfl (lv_at hl 1 rfl) ?_
                  refine lv_dup hx hb d_T_movement_151 rfl ?_
                  refine va_get (D := D) (C := R_T) (T := F_T) (N := 6) hx hb htw uw_T hown hK hP 0 rfl rfl 3 (by decide) (htw _ k_T_21) (fun _ h9 => h9) rfl d_T_movement_152 ?_
                  refine lv_iconst (v := 1) hx hb d_T_movement_155 (by decide) ?_
                  refine lv_iadd hx hb d_T_movement_156 ?_
                  refine sk_as (nI_1 nm) ?_
                  refine va_put (D := D) (ci := 0) (v := .int (nI (nm + 1))) (ty := .int) (C := R_T) (T := F_T) (N := 6) hx hb htw uw_T ft_T tk_T n_T hown hK hP hD hS 0 rfl rfl 3 (by decide) (htw _ k_T_21) (fun _ h9 => h9) rfl (by decide +kernel) rfl rfl (Nat.le_of_ble_eq_true rfl) d_T_movement_157 (fun H locs hP hD hS => ?_)
                  have hP : va_P D cl_L (ws_C cM cG o am ag (va_up pm nm q) pg (off, nm + 1, ng, now, nw_F F nm a b d9 s9 n9 v9, R)) H := by rw [← mw_fin (hZ nm (Nat.le_refl _))]; exact mw_P hP
                  have hD : va_D A (ws_C cM cG o am ag (va_up pm nm q) pg (off, nm + 1, ng, now, nw_F F nm a b d9 s9 n9 v9, R)) := by rw [← mw_fin (hZ nm (Nat.le_refl _))]; exact mw_D hD
                  refine lv_aload_n hx hb d_T_movement_160 rfl (lv_at hl 1 rfl) ?_
                  refine lv_iconst (v := 1) hx hb d_T_movement_161 (by decide) ?_
                  refine lv_iload hx hb d_T_movement_162 (lv_at hl 0 rfl) ?_
                  refine lv_iload_n hx hb d_T_movement_164 rfl (lv_at hl 2 rfl) ?_
                  refine lv_iload_n hx hb d_T_movement_165 rfl (lv_at hl 3 rfl) ?_
                  refine lv_iload hx hb d_T_movement_166 (lv_at hl 6 rfl) ?_
                  refine lv_iload_n hx hb d_T_movement_168 rfl (lv_at hl 4 rfl) ?_
                  have hF9 := wk_F hD hS hA
                  refine cm_V (n := 6) [.int 1, .int (nI nm), .int a, .int b, .int n9, .int d9] hC (t_T_send l D cM cG cI cJ o am ag (va_up pm nm q) pg off (nm + 1) ng now (nw_F F nm a b d9 s9 n9 v9) R _ 1 (nI nm) a b n9 d9 (show ng < 200 by have := cn_0 hM hcn; omega)) ⟨kc_T_send, kn_T, k_T_63, ki_T_send, kv_T_send⟩ (by decide +kernel) ⟨rfl, rfl, Nat.le_of_ble_eq_true rfl, Nat.le_of_ble_eq_true rfl⟩ x_0 (yt_Y D cM cG cI cJ) hY trivial (va_recv hK hP (ci := 0) (q0 := 0) rfl rfl) hP (wk_T hD) hS hF9 rfl hl.1 rfl (Nat.le_of_ble_eq_true rfl) d_T_movement_169 ⟨Nat.le_of_ble_eq_true rfl, Nat.le_of_ble_eq_true rfl⟩ (fun pg21 H locs hw9 hP1 hD1 hz9 hk9 hS => ?_)
                  have hP : va_P D cl_L (ws_C cM cG o am ag (va_up pm nm q) pg21 (off, nm + 1, ng + 1, now, nw_F F nm a b d9 s9 n9 v9, sn_R R ng 1 (nI nm) a b n9 d9)) H := hP1
                  have hD : va_D A (ws_C cM cG o am ag (va_up pm nm q) pg21 (off, nm + 1, ng + 1, now, nw_F F nm a b d9 s9 n9 v9, sn_R R ng 1 (nI nm) a b n9 d9)) := wk_D hD1 hF9
                  refine lv_iload hx hb d_T_movement_172 (lv_at hl 0 rfl) ?_
                  subst hAe
                  have e_S : sp_mv (off, nm, ng, now, F, R) a b d9 s9 n9 v9 = (0, (nI nm), (off, nm + 1, ng + 1, now, nw_F F nm a b d9 s9 n9 v9, sn_R R ng 1 (nI nm) a b n9 d9)) := by simp only [sp_mv]; rw [if_pos ⟨b3, b6, c7, b10, b13, b16, b19⟩, if_neg (show ¬ nm = 20 by omega)]
                  refine vx_ret ?_
                  refine W.widen (k := 2) (n := 26) (by decide) (by decide) ?_
                  exact W.iret (v := (nI nm)) hx hb hr (fun t ht hW => ⟨⟨_, (va_up pm nm q, pg21), rfl, ⟨by rw [e_S], by rw [e_S]⟩, by rw [ht, e_S]; exact hP, by rw [e_S]; exact hD⟩, hS.F ht⟩) hS.2.2 d_T_movement_174
                · obtain ⟨sa9, hsa9⟩ := hY.2.2.2.1 (57, "there is no room for another movement") (by decide)
                  have e_S : sp_mv (off, nm, ng, now, F, R) a b d9 s9 n9 v9 = (2, 0, (off, nm, ng, now, F, R)) := by simp only [sp_mv]; rw [if_pos ⟨b3, b6, c7, b10, b13, b16, b19⟩, if_pos (lp_20 c20 hn20)]
                  exact vx_throwS (A := A) hx hb hl0 hown (by decide +kernel) (by decide +kernel) (htw _ k_T_55) (htw _ kn_IllegalStateException) hsa9 (at_IllegalStateException htw hY) ag_IllegalStateException hXs.1 hXs.2 hS (hl.1.trans hml.symm) d_T_movement_111 d_T_movement_114 d_T_movement_115 d_T_movement_117 d_T_movement_120 (fun x hx9 => (hne x hx9).elim) (Nat.le_of_ble_eq_true rfl) (Nat.le_of_ble_eq_true rfl) (Nat.le_of_ble_eq_true rfl) (Nat.le_of_ble_eq_true rfl) hlocks (fun t ht1 ht2 ht3 => ⟨(), trivial, Or.inr ⟨rfl, by rw [e_S]⟩, ht2, fun q h1 _ => ht3 q h1⟩) (fun z hz => nomatch hz) (Nat.le_of_ble_eq_true rfl) (Nat.le_of_ble_eq_true rfl)
              · refine lv_if_ne (tgt := 99) hx hb d_T_movement_86 (by decide) (fun q9 => absurd rfl q9) (fun _ => ?_)
                obtain ⟨sa9, hsa9⟩ := hY.2.2.2.1 (53, "seal, pieces or amount can't be") (by decide)
                have e_S : sp_mv (off, nm, ng, now, F, R) a b d9 s9 n9 v9 = (1, 0, (off, nm, ng, now, F, R)) := by simp only [sp_mv]; rw [if_neg (fun q => b19 q.2.2.2.2.2.2)]
                exact vx_throwS (A := A) hx hb hl0 hown (by decide +kernel) (by decide +kernel) (htw _ k_T_38) (htw _ kn_IllegalArgumentException) hsa9 (at_IllegalArgumentException htw hY) ag_IllegalArgumentException hXs.1 hXs.2 hS (hl.1.trans hml.symm) d_T_movement_89 d_T_movement_92 d_T_movement_93 d_T_movement_95 d_T_movement_98 (fun x hx9 => (hne x hx9).elim) (Nat.le_of_ble_eq_true rfl) (Nat.le_of_ble_eq_true rfl) (Nat.le_of_ble_eq_true rfl) (Nat.le_of_ble_eq_true rfl) hlocks (fun t ht1 ht2 ht3 => ⟨(), trivial, Or.inl ⟨rfl, by rw [e_S]⟩, ht2, fun q h1 _ => ht3 q h1⟩) (fun z hz => nomatch hz) (Nat.le_of_ble_eq_true rfl) (Nat.le_of_ble_eq_true rfl)
            · refine lv_if_eq (tgt := 89) hx hb d_T_movement_75 (by decide) (fun _ => ?_) (fun q9 => absurd rfl q9)
              obtain ⟨sa9, hsa9⟩ := hY.2.2.2.1 (53, "seal, pieces or amount can't be") (by decide)
              have e_S : sp_mv (off, nm, ng, now, F, R) a b d9 s9 n9 v9 = (1, 0, (off, nm, ng, now, F, R)) := by simp only [sp_mv]; rw [if_neg (fun q => b16 q.2.2.2.2.2.1)]
              exact vx_throwS (A := A) hx hb hl0 hown (by decide +kernel) (by decide +kernel) (htw _ k_T_38) (htw _ kn_IllegalArgumentException) hsa9 (at_IllegalArgumentException htw hY) ag_IllegalArgumentException hXs.1 hXs.2 hS (hl.1.trans hml.symm) d_T_movement_89 d_T_movement_92 d_T_movement_93 d_T_movement_95 d_T_movement_98 (fun x hx9 => (hne x hx9).elim) (Nat.le_of_ble_eq_true rfl) (Nat.le_of_ble_eq_true rfl) (Nat.le_of_ble_eq_true rfl) (Nat.le_of_ble_eq_true rfl) hlocks (fun t ht1 ht2 ht3 => ⟨(), trivial, Or.inl ⟨rfl, by rw [e_S]⟩, ht2, fun q h1 _ => ht3 q h1⟩) (fun z hz => nomatch hz) (Nat.le_of_ble_eq_true rfl) (Nat.le_of_ble_eq_true rfl)
          · refine lv_if_eq (tgt := 89) hx hb d_T_movement_63 (by decide) (fun _ => ?_) (fun q9 => absurd rfl q9)
            obtain ⟨sa9, hsa9⟩ := hY.2.2.2.1 (53, "seal, pieces or amount can't be") (by decide)
            have e_S : sp_mv (off, nm, ng, now, F, R) a b d9 s9 n9 v9 = (1, 0, (off, nm, ng, now, F, R)) := by simp only [sp_mv]; rw [if_neg (fun q => b13 q.2.2.2.2.1)]
            exact vx_throwS (A := A) hx hb hl0 hown (by decide +kernel) (by decide +kernel) (htw _ k_T_38) (htw _ kn_IllegalArgumentException) hsa9 (at_IllegalArgumentException htw hY) ag_IllegalArgumentException hXs.1 hXs.2 hS (hl.1.trans hml.symm) d_T_movement_89 d_T_movement_92 d_T_movement_93 d_T_movement_95 d_T_movement_98 (fun x hx9 => (hne x hx9).elim) (Nat.le_of_ble_eq_true rfl) (Nat.le_of_ble_eq_true rfl) (Nat.le_of_ble_eq_true rfl) (Nat.le_of_ble_eq_true rfl) hlocks (fun t ht1 ht2 ht3 => ⟨(), trivial, Or.inl ⟨rfl, by rw [e_S]⟩, ht2, fun q h1 _ => ht3 q h1⟩) (fun z hz => nomatch hz) (Nat.le_of_ble_eq_true rfl) (Nat.le_of_ble_eq_true rfl)
        · refine lv_if_ne (tgt := 55) hx hb d_T_movement_42 (by decide) (fun q9 => absurd rfl q9) (fun _ => ?_)
          obtain ⟨sa9, hsa9⟩ := hY.2.2.2.1 (49, "the limit is ahead of now or too high") (by decide)
          have e_S : sp_mv (off, nm, ng, now, F, R) a b d9 s9 n9 v9 = (1, 0, (off, nm, ng, now, F, R)) := by simp only [sp_mv]; rw [if_neg (fun q => b10 q.2.2.2.1)]
          exact vx_throwS (A := A) hx hb hl0 hown (by decide +kernel) (by decide +kernel) (htw _ k_T_38) (htw _ kn_IllegalArgumentException) hsa9 (at_IllegalArgumentException htw hY) ag_IllegalArgumentException hXs.1 hXs.2 hS (hl.1.trans hml.symm) d_T_movement_45 d_T_movement_48 d_T_movement_49 d_T_movement_51 d_T_movement_54 (fun x hx9 => (hne x hx9).elim) (Nat.le_of_ble_eq_true rfl) (Nat.le_of_ble_eq_true rfl) (Nat.le_of_ble_eq_true rfl) (Nat.le_of_ble_eq_true rfl) hlocks (fun t ht1 ht2 ht3 => ⟨(), trivial, Or.inl ⟨rfl, by rw [e_S]⟩, ht2, fun q h1 _ => ht3 q h1⟩) (fun z hz => nomatch hz) (Nat.le_of_ble_eq_true rfl) (Nat.le_of_ble_eq_true rfl)
      · obtain ⟨sa9, hsa9⟩ := hY.2.2.2.1 (40, "a movement needs two offices") (by decide)
        have e_S : sp_mv (off, nm, ng, now, F, R) a b d9 s9 n9 v9 = (1, 0, (off, nm, ng, now, F, R)) := by simp only [sp_mv]; rw [if_neg (fun q => q.2.2.1 c7)]
        exact vx_throwS (A := A) hx hb hl0 hown (by decide +kernel) (by decide +kernel) (htw _ k_T_38) (htw _ kn_IllegalArgumentException) hsa9 (at_IllegalArgumentException htw hY) ag_IllegalArgumentException hXs.1 hXs.2 hS (hl.1.trans hml.symm) d_T_movement_21 d_T_movement_24 d_T_movement_25 d_T_movement_27 d_T_movement_30 (fun x hx9 => (hne x hx9).elim) (Nat.le_of_ble_eq_true rfl) (Nat.le_of_ble_eq_true rfl) (Nat.le_of_ble_eq_true rfl) (Nat.le_of_ble_eq_true rfl) hlocks (fun t ht1 ht2 ht3 => ⟨(), trivial, Or.inl ⟨rfl, by rw [e_S]⟩, ht2, fun q h1 _ => ht3 q h1⟩) (fun z hz => nomatch hz) (Nat.le_of_ble_eq_true rfl) (Nat.le_of_ble_eq_true rfl)
    · refine lv_if_eq (tgt := 21) hx hb d_T_movement_13 (by decide) (fun _ => ?_) (fun q9 => absurd rfl q9)
      obtain ⟨sa9, hsa9⟩ := hY.2.2.2.1 (40, "a movement needs two offices") (by decide)
      have e_S : sp_mv (off, nm, ng, now, F, R) a b d9 s9 n9 v9 = (1, 0, (off, nm, ng, now, F, R)) := by simp only [sp_mv]; rw [if_neg (fun q => b6 q.2.1)]
      exact vx_throwS (A := A) hx hb hl0 hown (by decide +kernel) (by decide +kernel) (htw _ k_T_38) (htw _ kn_IllegalArgumentException) hsa9 (at_IllegalArgumentException htw hY) ag_IllegalArgumentException hXs.1 hXs.2 hS (hl.1.trans hml.symm) d_T_movement_21 d_T_movement_24 d_T_movement_25 d_T_movement_27 d_T_movement_30 (fun x hx9 => (hne x hx9).elim) (Nat.le_of_ble_eq_true rfl) (Nat.le_of_ble_eq_true rfl) (Nat.le_of_ble_eq_true rfl) (Nat.le_of_ble_eq_true rfl) hlocks (fun t ht1 ht2 ht3 => ⟨(), trivial, Or.inl ⟨rfl, by rw [e_S]⟩, ht2, fun q h1 _ => ht3 q h1⟩) (fun z hz => nomatch hz) (Nat.le_of_ble_eq_true rfl) (Nat.le_of_ble_eq_true rfl)
  · refine lv_if_eq (tgt := 21) hx hb d_T_movement_5 (by decide) (fun _ => ?_) (fun q9 => absurd rfl q9)
    obtain ⟨sa9, hsa9⟩ := hY.2.2.2.1 (40, "a movement needs two offices") (by decide)
    have e_S : sp_mv (off, nm, ng, now, F, R) a b d9 s9 n9 v9 = (1, 0, (off, nm, ng, now, F, R)) := by simp only [sp_mv]; rw [if_neg (fun q => b3 q.1)]
    exact vx_throwS (A := A) hx hb hl0 hown (by decide +kernel) (by decide +kernel) (htw _ k_T_38) (htw _ kn_IllegalArgumentException) hsa9 (at_IllegalArgumentException htw hY) ag_IllegalArgumentException hXs.1 hXs.2 hS (hl.1.trans hml.symm) d_T_movement_21 d_T_movement_24 d_T_movement_25 d_T_movement_27 d_T_movement_30 (fun x hx9 => (hne x hx9).elim) (Nat.le_of_ble_eq_true rfl) (Nat.le_of_ble_eq_true rfl) (Nat.le_of_ble_eq_true rfl) (Nat.le_of_ble_eq_true rfl) hlocks (fun t ht1 ht2 ht3 => ⟨(), trivial, Or.inl ⟨rfl, by rw [e_S]⟩, ht2, fun q h1 _ => ht3 q h1⟩) (fun z hz => nomatch hz) (Nat.le_of_ble_eq_true rfl) (Nat.le_of_ble_eq_true rfl)
