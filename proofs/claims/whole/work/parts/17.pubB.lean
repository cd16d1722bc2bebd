set_option maxHeartbeats 4000000 in
set_option maxRecDepth 100000 in
theorem t_T_arrive (l : Launch) (D : va_G) (cM cG cI cJ : ClassId) (o am ag : Nat) (pm pg : Nat → Nat) (off : Int32) (nm ng : Nat) (now : Int32) (F : Nat → Nat → Int32) (R : Nat → Int32) (sz : Nat) (x : Int32) (y : Int32) (z : Int32) (hl0 : l.stackTraces = false) (t9 : Nat) (hI : iv_S t9 (off, nm, ng, now, F, R)) : vx_Met l y_T_arrive (Cond.code y_T_arrive c_T_arrive 5 (some .int) :: tw_L) ({ frames := 6, cells := 2, slots := 14, locals := 86 } : Room) (mu_P D (ws_C cM cG o am ag pm pg (off, nm, ng, now, F, R)) sz (sx_P (va_A (ws_C cM cG o am ag pm pg (off, nm, ng, now, F, R)) sz)) (yt_P D cM cG cI cJ) [.ref o, .int x, .int y, .int z]) (va_Qi (fun (r : Int32) (_ : (Nat → Nat)) => (sp_ar (off, nm, ng, now, F, R) x y z).1 = 0 ∧ r = (sp_ar (off, nm, ng, now, F, R) x y z).2.1) (mu_B D (ws_C cM cG o am ag pm pg (off, nm, ng, now, F, R)) sz (fun pg1 => ws_C cM cG o am ag pm pg1 (sp_ar (off, nm, ng, now, F, R) x y z).2.2)) (va_A (ws_C cM cG o am ag pm pg (off, nm, ng, now, F, R)) sz)) (vx_X (fun _ : Unit => True) (fun E _ _ => E = "java/lang/IllegalArgumentException" ∧ (sp_ar (off, nm, ng, now, F, R) x y z).1 = 1) (fun q => sz ≤ q)) 2 14 (va_A (ws_C cM cG o am ag pm pg (off, nm, ng, now, F, R)) sz) := by
  refine vx_ofW (cc := c_T_arrive) (maxL := 5) (ret := (some .int)) (by decide) rfl ?_
  intro p e s m args below meth c s₁ B hml hne hv
  obtain ⟨rfl, hsz, hP, hD0, hX, hY⟩ := hv
  have hx := B.exec
  have hb := B.bytes
  have hr := B.returns
  have htw : ∀ w ∈ tw_L, w.before _ s = true := fun w hw => atoms_spec (ws := (Cond.code y_T_arrive c_T_arrive 5 (some .int) :: tw_L)) B.pre w (List.mem_cons_of_mem _ hw)
  have hown : s.vm.findClass R_T = some m.cls := findClass_of_methodNamed B.named
  have hlocks := B.notSynchronized
  have hC : CallFix p m c c_T_arrive 5 s _ tw_L R_T := ⟨hx, hb, hml, hown, htw⟩
  have hK := hY.1
  have hl := lv_entry ([.ref o, .int x, .int y, .int z]) (n := 5) (Nat.le_of_ble_eq_true rfl)
  rw [lg_entry_eq]
  generalize (lg_sl ([.ref o, .int x, .int y, .int z]) ++ List.replicate (5 - (lg_sl ([.ref o, .int x, .int y, .int z])).length) Slot.unset).toArray = ls at hl ⊢
  have hl : lv_has ls 5 [(0, .ref o), (1, .int x), (2, .int y), (3, .int z)] := hl
  subst hsz
  obtain ⟨A, hAe⟩ : ∃ A : Nat → Prop, A = va_A (ws_C cM cG o am ag pm pg (off, nm, ng, now, F, R)) s.heap.size := ⟨_, rfl⟩
  have hD : va_D A (ws_C cM cG o am ag pm pg (off, nm, ng, now, F, R)) := by rw [hAe]; exact hD0.self
  have hA : ∀ q : Nat, s.heap.size ≤ q → A q := fun q h => by rw [hAe]; exact Or.inr h
  have hS : va_S A s.heap s.heap [] := va_S.rf
  have hXs : sx_P A s s.heap := by rw [hAe]; exact hX
  obtain ⟨hof, hn20, hnow, ht4, hM, hZ, hG, hcn⟩ := id hI
  have hg200 : ng ≤ 200 := by have := cn_0 hM hcn; omega
  refine lv_aload_n hx hb d_T_arrive_0 rfl (lv_at hl 0 rfl) ?_
  refine lv_iload_n hx hb d_T_arrive_1 rfl (lv_at hl 1 rfl) ?_
  refine cp_Q (n := 1) [.int x] hC (t_T_findMovement l D cM cG cI cJ o am ag pm pg off nm ng now F R x hn20) ⟨kc_T_findMovement, kn_T, k_T_66, ki_T_findMovement, kv_T_findMovement⟩ (by decide +kernel) ⟨rfl, rfl, Nat.le_of_ble_eq_true rfl, Nat.le_of_ble_eq_true rfl⟩ x_0 (yt_Y D cM cG cI cJ) hY hP (va_recv hK hP (ci := 0) (q0 := 0) rfl rfl) rfl hl.1 rfl (Nat.le_of_ble_eq_true rfl) d_T_arrive_2 ⟨Nat.le_of_ble_eq_true rfl, Nat.le_of_ble_eq_true rfl⟩ (fun r1 h2 => ?_)
  rcases h2 with ⟨i, hi, rfl, rfl⟩ | ⟨rfl, n3⟩
  · refine W.eq (g2 := F0 m 5 ls (.ref (pm i) :: [])) rfl ?_
    have hcl : (nI i).toNatClampNeg = i := nI_clamp (by omega)
    have hix : is_ix nm (nI i) := ix_nI (by omega) hi
    have hMi := hM i hi
    refine lv_astore (lv' := [(4, .ref (pm i)), (0, .ref o), (1, .int (nI i)), (2, .int y), (3, .int z)]) hx hb d_T_arrive_5 hl (by decide) rfl (fun ls hl => ?_)
    refine lv_aload hx hb d_T_arrive_7 (lv_at hl 0 rfl) ?_
    refine lv_ifnull hx hb d_T_arrive_9 ?_
    refine lv_aload_n hx hb d_T_arrive_12 rfl (lv_at hl 1 rfl) ?_
    refine lv_iload_n hx hb d_T_arrive_13 rfl (lv_at hl 3 rfl) ?_
    refine cp_V (n := 1) [.int y] hC (t_T_isOffice l D cM cG cI cJ o am ag pm pg off nm ng now F R y) ⟨kc_T_isOffice, kn_T, k_T_34, ki_T_isOffice, kv_T_isOffice⟩ (by decide +kernel) ⟨rfl, rfl, Nat.le_of_ble_eq_true rfl, Nat.le_of_ble_eq_true rfl⟩ x_0 (yt_Y D cM cG cI cJ) hY hP (va_recv hK hP (ci := 0) (q0 := 0) rfl rfl) rfl hl.1 rfl (Nat.le_of_ble_eq_true rfl) d_T_arrive_14 ⟨Nat.le_of_ble_eq_true rfl, Nat.le_of_ble_eq_true rfl⟩ (fun r4 h5 => ?_)
    rcases h5 with ⟨rfl, b6⟩ | ⟨rfl, b6⟩
    · refine lv_if_eq (tgt := 30) hx hb d_T_arrive_17 (by decide) (fun q9 => absurd q9 (by decide)) (fun _ => ?_)
      refine lv_iload_n hx hb d_T_arrive_20 rfl (lv_at hl 4 rfl) ?_
      refine lv_iconst (v := 0) hx hb d_T_arrive_21 (by decide) ?_
      refine lv_ldc (v := 1000000000) hx hb hown (htw _ k_T_51) d_T_arrive_22 ?_
      refine cp_S (n := 3) [.int z, .int 0, .int 1000000000] hC (t_T_isWithin l D cM cG cI cJ z 0 1000000000) ⟨kc_T_isWithin, kn_T, k_T_45, ks_T_isWithin⟩ (by decide +kernel) ⟨rfl, rfl, Nat.le_of_ble_eq_true rfl, Nat.le_of_ble_eq_true rfl⟩ x_0 (yt_Y D cM cG cI cJ) hY trivial rfl hl.1 rfl (Nat.le_of_ble_eq_true rfl) d_T_arrive_24 ⟨Nat.le_of_ble_eq_true rfl, Nat.le_of_ble_eq_true rfl⟩ (fun r7 h8 => ?_)
      rcases h8 with ⟨rfl, b9⟩ | ⟨rfl, b9⟩
      · refine lv_if_ne (tgt := 40) hx hb d_T_arrive_27 (by decide) (fun _ => ?_) (fun q9 => absurd q9 (by decide))
        refine lv_aload hx hb d_T_arrive_40 (lv_at hl 0 rfl) ?_
        refine cp_V (n := 0) [] hC (t_V_haveArrived l D cM cG cI cJ (pm i) F i) ⟨kc_V_haveArrived, kn_V, k_T_72, ki_V_haveArrived, kv_V_haveArrived⟩ (by decide +kernel) ⟨rfl, rfl, Nat.le_of_ble_eq_true rfl, Nat.le_of_ble_eq_true rfl⟩ x_0 (yt_Y D cM cG cI cJ) hY (wk_1 hP (mv_at hi)) (va_recv hK hP (ci := 1) (q0 := (i + 3)) rfl (mv_at hi)) rfl hl.1 rfl (Nat.le_of_ble_eq_true rfl) d_T_arrive_42 ⟨Nat.le_of_ble_eq_true rfl, Nat.le_of_ble_eq_true rfl⟩ (fun r10 h11 => ?_)
        rcases h11 with ⟨rfl, b12⟩ | ⟨rfl, b12⟩
        · have b12 : ¬ (F 6 i) = -1 := b12
          refine lv_if_ne (tgt := 67) hx hb d_T_arrive_45 (by decide) (fun _ => ?_) (fun q9 => absurd q9 (by decide))
          refine lv_iconst (v := 0) hx hb d_T_arrive_67 (by decide) ?_
          subst hAe
          have e_S : sp_ar (off, nm, ng, now, F, R) (nI i) y z = (0, 0, (off, nm, ng, now, F, R)) := by simp only [sp_ar, hcl]; rw [if_pos ⟨hix, b6, b9⟩, if_pos (Or.inl b12)]
          refine vx_ret ?_
          refine W.widen (k := 2) (n := 14) (by decide) (by decide) ?_
          exact W.iret (v := 0) hx hb hr (fun t ht hW => ⟨⟨_, pg, rfl, ⟨by rw [e_S], by rw [e_S]⟩, by rw [ht, e_S]; exact hP, by rw [e_S]; exact hD⟩, hS.F ht⟩) hS.2.2 d_T_arrive_68
        · have b12 : (F 6 i) = -1 := b12
          refine lv_if_ne (tgt := 67) hx hb d_T_arrive_45 (by decide) (fun q9 => absurd rfl q9) (fun _ => ?_)
          refine lv_iload_n hx hb d_T_arrive_48 rfl (lv_at hl 3 rfl) ?_
          refine lv_aload hx hb d_T_arrive_49 (lv_at hl 0 rfl) ?_
          refine va_get (D := D) (C := R_V) (T := F_V) (N := 19) hx hb htw uw_V hown hK hP (i + 3) (mv_at hi) rfl 0 (by decide) (htw _ k_T_76) (fun _ h9 => h9) rfl d_T_arrive_51 ?_
          refine lv_icmp_eq (tgt := 67) hx hb d_T_arrive_54 (by decide) (fun c13 => ?_) (fun c13 => ?_)
          · refine lv_iconst (v := 0) hx hb d_T_arrive_67 (by decide) ?_
            subst hAe
            have e_S : sp_ar (off, nm, ng, now, F, R) (nI i) y z = (0, 0, (off, nm, ng, now, F, R)) := by simp only [sp_ar, hcl]; rw [if_pos ⟨hix, b6, b9⟩, if_pos (Or.inr (Or.inl c13))]
            refine vx_ret ?_
            refine W.widen (k := 2) (n := 14) (by decide) (by decide) ?_
            exact W.iret (v := 0) hx hb hr (fun t ht hW => ⟨⟨_, pg, rfl, ⟨by rw [e_S], by rw [e_S]⟩, by rw [ht, e_S]; exact hP, by rw [e_S]; exact hD⟩, hS.F ht⟩) hS.2.2 d_T_arrive_68
          · refine lv_aload hx hb d_T_arrive_57 (lv_at hl 0 rfl) ?_
            refine va_get (D := D) (C := R_V) (T := F_V) (N := 19) hx hb htw uw_V hown hK hP (i + 3) (mv_at hi) rfl 10 (by decide) (htw _ k_T_79) (fun _ h9 => h9) rfl d_T_arrive_59 ?_
            refine lv_bipush (v := 6) hx hb d_T_arrive_62 (by decide) ?_
            refine lv_icmp_ne (tgt := 69) hx hb d_T_arrive_64 (by decide) (fun c14 => ?_) (fun c14 => ?_)
            · refine lv_aload hx hb d_T_arrive_69 (lv_at hl 0 rfl) ?_
              refine lv_iload_n hx hb d_T_arrive_71 rfl (lv_at hl 3 rfl) ?_
              refine va_put (D := D) (ci := 1) (v := .int y) (ty := .int) (C := R_V) (T := F_V) (N := 19) hx hb htw uw_V ft_V tk_V n_V hown hK hP hD hS (i + 3) (mv_at hi) rfl 6 (by decide) (htw _ k_T_82) (fun _ h9 => h9) rfl (by decide +kernel) rfl rfl (Nat.le_of_ble_eq_true rfl) d_T_arrive_72 (fun H locs hP hD hS => ?_)
              rw [mv_put hi (by decide)] at hP hD
              have hP : va_P D cl_L (ws_C cM cG o am ag pm pg (off, nm, ng, now, up_F F 6 i y, R)) H := hP
              have hD : va_D A (ws_C cM cG o am ag pm pg (off, nm, ng, now, up_F F 6 i y, R)) := hD
              refine lv_aload hx hb d_T_arrive_75 (lv_at hl 0 rfl) ?_
              refine lv_iload_n hx hb d_T_arrive_77 rfl (lv_at hl 4 rfl) ?_
              refine va_put (D := D) (ci := 1) (v := .int z) (ty := .int) (C := R_V) (T := F_V) (N := 19) hx hb htw uw_V ft_V tk_V n_V hown hK hP hD hS (i + 3) (mv_at hi) rfl 7 (by decide) (htw _ k_T_85) (fun _ h9 => h9) rfl (by decide +kernel) rfl rfl (Nat.le_of_ble_eq_true rfl) d_T_arrive_78 (fun H locs hP hD hS => ?_)
              rw [mv_put hi (by decide)] at hP hD
              have hP : va_P D cl_L (ws_C cM cG o am ag pm pg (off, nm, ng, now, up_F (up_F F 6 i y) 7 i z, R)) H := hP
              have hD : va_D A (ws_C cM cG o am ag pm pg (off, nm, ng, now, up_F (up_F F 6 i y) 7 i z, R)) := hD
              refine lv_aload hx hb d_T_arrive_81 (lv_at hl 0 rfl) ?_
              refine lv_aload_n hx hb d_T_arrive_83 rfl (lv_at hl 1 rfl) ?_
              refine va_get (D := D) (C := R_T) (T := F_T) (N := 6) hx hb htw uw_T hown hK hP 0 rfl rfl 5 (by decide) (htw _ k_T_28) (fun _ h9 => h9) rfl d_T_arrive_84 ?_
              refine lv_aload hx hb d_T_arrive_87 (lv_at hl 0 rfl) ?_
              refine va_get (D := D) (C := R_V) (T := F_V) (N := 19) hx hb htw uw_V hown hK hP (i + 3) (mv_at hi) rfl 2 (by decide) (htw _ k_T_88) (fun _ h9 => h9) rfl d_T_arrive_89 ?_
              refine lv_icmp_le (tgt := 99) hx hb d_T_arrive_92 (by decide) (fun c15 => ?_) (fun c15 => ?_)
              · refine lv_iconst (v := 0) hx hb d_T_arrive_99 (by decide) ?_
                refine va_put (D := D) (ci := 1) (v := .int 0) (ty := .boolean) (C := R_V) (T := F_V) (N := 19) hx hb htw uw_V ft_V tk_V n_V hown hK hP hD hS (i + 3) (mv_at hi) rfl 8 (by decide) (htw _ k_T_91) (fun _ h9 => h9) rfl (by decide +kernel) rfl rfl (Nat.le_of_ble_eq_true rfl) d_T_arrive_100 (fun H locs hP hD hS => ?_)
                rw [mv_put hi (by decide)] at hP hD
                have hP : va_P D cl_L (ws_C cM cG o am ag pm pg (off, nm, ng, now, up_F (up_F (up_F F 6 i y) 7 i z) 8 i 0, R)) H := hP
                have hD : va_D A (ws_C cM cG o am ag pm pg (off, nm, ng, now, up_F (up_F (up_F F 6 i y) 7 i z) 8 i 0, R)) := hD
                refine lv_aload_n hx hb d_T_arrive_103 rfl (lv_at hl 1 rfl) ?_
                refine lv_iload_n hx hb d_T_arrive_104 rfl (lv_at hl 2 rfl) ?_
                refine lv_aload hx hb d_T_arrive_105 (lv_at hl 0 rfl) ?_
                have hg2 : ng + 2 ≤ 200 := by have := cn_ar hM hcn hi b12; omega
                have hF9 := wk_F hD hS hA
                refine cm_V (n := 2) [.int (nI i), .ref (pm i)] hC (t_T_sendArrived l D cM cG cI cJ o am ag pm pg off nm ng now (up_F (up_F (up_F F 6 i y) 7 i z) 8 i 0) R _ (nI i) i hi (by simp [up_at]) (show ng < 200 by omega)) ⟨kc_T_sendArrived, kn_T, k_T_95, ki_T_sendArrived, kv_T_sendArrived⟩ (by decide +kernel) ⟨rfl, rfl, Nat.le_of_ble_eq_true rfl, Nat.le_of_ble_eq_true rfl⟩ x_0 (yt_Y D cM cG cI cJ) hY trivial (va_recv hK hP (ci := 0) (q0 := 0) rfl rfl) hP (wk_T hD) hS hF9 rfl hl.1 rfl (Nat.le_of_ble_eq_true rfl) d_T_arrive_107 ⟨Nat.le_of_ble_eq_true rfl, Nat.le_of_ble_eq_true rfl⟩ (fun pg16 H locs hw9 hP1 hD1 hz9 hk9 hS => ?_)
                have e_R9 : sn_R R ng 2 (nI i) ((up_F (up_F (up_F F 6 i y) 7 i z) 8 i 0) 6 i) ((up_F (up_F (up_F F 6 i y) 7 i z) 8 i 0) 0 i) ((up_F (up_F (up_F F 6 i y) 7 i z) 8 i 0) 7 i) ((up_F (up_F (up_F F 6 i y) 7 i z) 8 i 0) 8 i) = sn_R R ng 2 (nI i) y (F 0 i) z 0 := by simp [up_at]
                rw [e_R9] at hP1 hD1
                have hP : va_P D cl_L (ws_C cM cG o am ag pm pg16 (off, nm, ng + 1, now, up_F (up_F (up_F F 6 i y) 7 i z) 8 i 0, sn_R R ng 2 (nI i) y (F 0 i) z 0)) H := hP1
                have hD : va_D A (ws_C cM cG o am ag pm pg16 (off, nm, ng + 1, now, up_F (up_F (up_F F 6 i y) 7 i z) 8 i 0, sn_R R ng 2 (nI i) y (F 0 i) z 0)) := wk_D hD1 hF9
                refine lv_iload_n hx hb d_T_arrive_110 rfl (lv_at hl 3 rfl) ?_
                refine lv_aload hx hb d_T_arrive_111 (lv_at hl 0 rfl) ?_
                refine va_get (D := D) (C := R_V) (T := F_V) (N := 19) hx hb htw uw_V hown hK hP (i + 3) (mv_at hi) rfl 1 (by decide) (htw _ k_T_99) (fun _ h9 => h9) rfl d_T_arrive_113 ?_
                refine lv_icmp_eq (tgt := 134) hx hb d_T_arrive_116 (by decide) (fun c17 => ?_) (fun c17 => ?_)
                · refine lv_iconst (v := 1) hx hb d_T_arrive_134 (by decide) ?_
                  subst hAe
                  have e_S : sp_ar (off, nm, ng, now, F, R) (nI i) y z = (0, 1, (off, nm, ng + 1, now, up_F (up_F (up_F F 6 i y) 7 i z) 8 i 0, sn_R R ng 2 (nI i) y (F 0 i) z 0)) := by simp only [sp_ar, hcl]; rw [if_pos ⟨hix, b6, b9⟩, if_neg (fun q => q.elim (fun z => z b12) (fun z => z.elim c13 c14)), if_neg (show ¬ F 2 i < now from Int32.not_lt.mpr c15), if_pos (show y = F 1 i from c17)]
                  refine vx_ret ?_
                  refine W.widen (k := 2) (n := 14) (by decide) (by decide) ?_
                  exact W.iret (v := 1) hx hb hr (fun t ht hW => ⟨⟨_, pg16, rfl, ⟨by rw [e_S], by rw [e_S]⟩, by rw [ht, e_S]; exact hP, by rw [e_S]; exact hD⟩, hS.F ht⟩) hS.2.2 d_T_arrive_135
                · refine lv_aload_n hx hb d_T_arrive_119 rfl (lv_at hl 1 rfl) ?_
                  refine lv_bipush (v := 6) hx hb d_T_arrive_120 (by decide) ?_
                  refine lv_iload_n hx hb d_T_arrive_122 rfl (lv_at hl 2 rfl) ?_
                  refine lv_iload_n hx hb d_T_arrive_123 rfl (lv_at hl 3 rfl) ?_
                  refine lv_aload hx hb d_T_arrive_124 (lv_at hl 0 rfl) ?_
                  refine va_get (D := D) (C := R_V) (T := F_V) (N := 19) hx hb htw uw_V hown hK hP (i + 3) (mv_at hi) rfl 1 (by decide) (htw _ k_T_99) (fun _ h9 => h9) rfl d_T_arrive_126 ?_
                  refine lv_iload_n hx hb d_T_arrive_129 rfl (lv_at hl 3 rfl) ?_
                  refine lv_iconst (v := 0) hx hb d_T_arrive_130 (by decide) ?_
                  have hF9 := wk_F hD hS hA
                  refine cm_V (n := 6) [.int 6, .int (nI i), .int y, .int (F 1 i), .int y, .int 0] hC (t_T_send l D cM cG cI cJ o am ag pm pg16 off nm (ng + 1) now (up_F (up_F (up_F F 6 i y) 7 i z) 8 i 0) (sn_R R ng 2 (nI i) y (F 0 i) z 0) _ 6 (nI i) y (F 1 i) y 0 (show ng + 1 < 200 by omega)) ⟨kc_T_send, kn_T, k_T_63, ki_T_send, kv_T_send⟩ (by decide +kernel) ⟨rfl, rfl, Nat.le_of_ble_eq_true rfl, Nat.le_of_ble_eq_true rfl⟩ x_0 (yt_Y D cM cG cI cJ) hY trivial (va_recv hK hP (ci := 0) (q0 := 0) rfl rfl) hP (wk_T hD) hS hF9 rfl hl.1 rfl (Nat.le_of_ble_eq_true rfl) d_T_arrive_131 ⟨Nat.le_of_ble_eq_true rfl, Nat.le_of_ble_eq_true rfl⟩ (fun pg18 H locs hw9 hP1 hD1 hz9 hk9 hS => ?_)
                  have hP : va_P D cl_L (ws_C cM cG o am ag pm pg18 (off, nm, ng + 1 + 1, now, up_F (up_F (up_F F 6 i y) 7 i z) 8 i 0, sn_R (sn_R R ng 2 (nI i) y (F 0 i) z 0) (ng + 1) 6 (nI i) y (F 1 i) y 0)) H := hP1
                  have hD : va_D A (ws_C cM cG o am ag pm pg18 (off, nm, ng + 1 + 1, now, up_F (up_F (up_F F 6 i y) 7 i z) 8 i 0, sn_R (sn_R R ng 2 (nI i) y (F 0 i) z 0) (ng + 1) 6 (nI i) y (F 1 i) y 0)) := wk_D hD1 hF9
                  refine lv_iconst (v := 1) hx hb d_T_arrive_134 (by decide) ?_
                  subst hAe
                  have e_S : sp_ar (off, nm, ng, now, F, R) (nI i) y z = (0, 1, (off, nm, ng + 1 + 1, now, up_F (up_F (up_F F 6 i y) 7 i z) 8 i 0, sn_R (sn_R R ng 2 (nI i) y (F 0 i) z 0) (ng + 1) 6 (nI i) y (F 1 i) y 0)) := by simp only [sp_ar, hcl]; rw [if_pos ⟨hix, b6, b9⟩, if_neg (fun q => q.elim (fun z => z b12) (fun z => z.elim c13 c14)), if_neg (show ¬ F 2 i < now from Int32.not_lt.mpr c15), if_neg (show ¬ y = F 1 i from c17)]
                  refine vx_ret ?_
                  refine W.widen (k := 2) (n := 14) (by decide) (by decide) ?_
                  exact W.iret (v := 1) hx hb hr (fun t ht hW => ⟨⟨_, pg18, rfl, ⟨by rw [e_S], by rw [e_S]⟩, by rw [ht, e_S]; exact hP, by rw [e_S]; exact hD⟩, hS.F ht⟩) hS.2.2 d_T_arrive_135
              · refine lv_iconst (v := 1) hx hb d_T_arrive_95 (by decide) ?_
                refine lv_goto (tgt := 100) hx hb d_T_arrive_96 (by decide) ?_
                refine va_put (D := D) (ci := 1) (v := .int 1) (ty := .boolean) (C := R_V) (T := F_V) (N := 19) hx hb htw uw_V ft_V tk_V n_V hown hK hP hD hS (i + 3) (mv_at hi) rfl 8 (by decide) (htw _ k_T_91) (fun _ h9 => h9) rfl (by decide +kernel) rfl rfl (Nat.le_of_ble_eq_true rfl) d_T_arrive_100 (fun H locs hP hD hS => ?_)
                rw [mv_put hi (by decide)] at hP hD
                have hP : va_P D cl_L (ws_C cM cG o am ag pm pg (off, nm, ng, now, up_F (up_F (up_F F 6 i y) 7 i z) 8 i 1, R)) H := hP
                have hD : va_D A (ws_C cM cG o am ag pm pg (off, nm, ng, now, up_F (up_F (up_F F 6 i y) 7 i z) 8 i 1, R)) := hD
                refine lv_aload_n hx hb d_T_arrive_103 rfl (lv_at hl 1 rfl) ?_
                refine lv_iload_n hx hb d_T_arrive_104 rfl (lv_at hl 2 rfl) ?_
                refine lv_aload hx hb d_T_arrive_105 (lv_at hl 0 rfl) ?_
                have hg2 : ng + 2 ≤ 200 := by have := cn_ar hM hcn hi b12; omega
                have hF9 := wk_F hD hS hA
                refine cm_V (n := 2) [.int (nI i), .ref (pm i)] hC (t_T_sendArrived l D cM cG cI cJ o am ag pm pg off nm ng now (up_F (up_F (up_F F 6 i y) 7 i z) 8 i 1) R _ (nI i) i hi (by simp [up_at]) (show ng < 200 by omega)) ⟨kc_T_sendArrived, kn_T, k_T_95, ki_T_sendArrived, kv_T_sendArrived⟩ (by decide +kernel) ⟨rfl, rfl, Nat.le_of_ble_eq_true rfl, Nat.le_of_ble_eq_true rfl⟩ x_0 (yt_Y D cM cG cI cJ) hY trivial (va_recv hK hP (ci := 0) (q0 := 0) rfl rfl) hP (wk_T hD) hS hF9 rfl hl.1 rfl (Nat.le_of_ble_eq_true rfl) d_T_arrive_107 ⟨Nat.le_of_ble_eq_true rfl, Nat.le_of_ble_eq_true rfl⟩ (fun pg19 H locs hw9 hP1 hD1 hz9 hk9 hS => ?_)
                have e_R9 : sn_R R ng 2 (nI i) ((up_F (up_F (up_F F 6 i y) 7 i z) 8 i 1) 6 i) ((up_F (up_F (up_F F 6 i y) 7 i z) 8 i 1) 0 i) ((up_F (up_F (up_F F 6 i y) 7 i z) 8 i 1) 7 i) ((up_F (up_F (up_F F 6 i y) 7 i z) 8 i 1) 8 i) = sn_R R ng 2 (nI i) y (F 0 i) z 1 := by simp [up_at]
                rw [e_R9] at hP1 hD1
                have hP : va_P D cl_L (ws_C cM cG o am ag pm pg19 (off, nm, ng + 1, now, up_F (up_F (up_F F 6 i y) 7 i z) 8 i 1, sn_R R ng 2 (nI i) y (F 0 i) z 1)) H := hP1
                have hD : va_D A (ws_C cM cG o am ag pm pg19 (off, nm, ng + 1, now, up_F (up_F (up_F F 6 i y) 7 i z) 8 i 1, sn_R R ng 2 (nI i) y (F 0 i) z 1)) := wk_D hD1 hF9
                refine lv_iload_n hx hb d_T_arrive_110 rfl (lv_at hl 3 rfl) ?_
                refine lv_aload hx hb d_T_arrive_111 (lv_at hl 0 rfl) ?_
                refine va_get (D := D) (C := R_V) (T := F_V) (N := 19) hx hb htw uw_V hown hK hP (i + 3) (mv_at hi) rfl 1 (by decide) (htw _ k_T_99) (fun _ h9 => h9) rfl d_T_arrive_113 ?_
                refine lv_icmp_eq (tgt := 134) hx hb d_T_arrive_116 (by decide) (fun c20 => ?_) (fun c20 => ?_)
                · refine lv_iconst (v := 1) hx hb d_T_arrive_134 (by decide) ?_
                  subst hAe
                  have e_S : sp_ar (off, nm, ng, now, F, R) (nI i) y z = (0, 1, (off, nm, ng + 1, now, up_F (up_F (up_F F 6 i y) 7 i z) 8 i 1, sn_R R ng 2 (nI i) y (F 0 i) z 1)) := by simp only [sp_ar, hcl]; rw [if_pos ⟨hix, b6, b9⟩, if_neg (fun q => q.elim (fun z => z b12) (fun z => z.elim c13 c14)), if_pos (show F 2 i < now from Int32.not_le.mp c15), if_pos (show y = F 1 i from c20)]
                  refine vx_ret ?_
                  refine W.widen (k := 2) (n := 14) (by decide) (by decide) ?_
                  exact W.iret (v := 1) hx hb hr (fun t ht hW => ⟨⟨_, pg19, rfl, ⟨by rw [e_S], by rw [e_S]⟩, by rw [ht, e_S]; exact hP, by rw [e_S]; exact hD⟩, hS.F ht⟩) hS.2.2 d_T_arrive_135
                · refine lv_aload_n hx hb d_T_arrive_119 rfl (lv_at hl 1 rfl) ?_
                  refine lv_bipush (v := 6) hx hb d_T_arrive_120 (by decide) ?_
                  refine lv_iload_n hx hb d_T_arrive_122 rfl (lv_at hl 2 rfl) ?_
                  refine lv_iload_n hx hb d_T_arrive_123 rfl (lv_at hl 3 rfl) ?_
                  refine lv_aload hx hb d_T_arrive_124 (lv_at hl 0 rfl) ?_
                  refine va_get (D := D) (C := R_V) (T := F_V) (N := 19) hx hb htw uw_V hown hK hP (i + 3) (mv_at hi) rfl 1 (by decide) (htw _ k_T_99) (fun _ h9 => h9) rfl d_T_arrive_126 ?_
                  refine lv_iload_n hx hb d_T_arrive_129 rfl (lv_at hl 3 rfl) ?_
                  refine lv_iconst (v := 0) hx hb d_T_arrive_130 (by decide) ?_
                  have hF9 := wk_F hD hS hA
                  refine cm_V (n := 6) [.int 6, .int (nI i), .int y, .int (F 1 i), .int y, .int 0] hC (t_T_send l D cM cG cI cJ o am ag pm pg19 off nm (ng + 1) now (up_F (up_F (up_F F 6 i y) 7 i z) 8 i 1) (sn_R R ng 2 (nI i) y (F 0 i) z 1) _ 6 (nI i) y (F 1 i) y 0 (show ng + 1 < 200 by omega)) ⟨kc_T_send, kn_T, k_T_63, ki_T_send, kv_T_send⟩ (by decide +kernel) ⟨rfl, rfl, Nat.le_of_ble_eq_true rfl, Nat.le_of_ble_eq_true rfl⟩ x_0 (yt_Y D cM cG cI cJ) hY trivial (va_recv hK hP (ci := 0) (q0 := 0) rfl rfl) hP (wk_T hD) hS hF9 rfl hl.1 rfl (Nat.le_of_ble_eq_true rfl) d_T_arrive_131 ⟨Nat.le_of_ble_eq_true rfl, Nat.le_of_ble_eq_true rfl⟩ (fun pg21 H locs hw9 hP1 hD1 hz9 hk9 hS => ?_)
                  have hP : va_P D cl_L (ws_C cM cG o am ag pm pg21 (off, nm, ng + 1 + 1, now, up_F (up_F (up_F F 6 i y) 7 i z) 8 i 1, sn_R (sn_R R ng 2 (nI i) y (F 0 i) z 1) (ng + 1) 6 (nI i) y (F 1 i) y 0)) H := hP1
                  have hD : va_D A (ws_C cM cG o am ag pm pg21 (off, nm, ng + 1 + 1, now, up_F (up_F (up_F F 6 i y) 7 i z) 8 i 1, sn_R (sn_R R ng 2 (nI i) y (F 0 i) z 1) (ng + 1) 6 (nI i) y (F 1 i) y 0)) := wk_D hD1 hF9
                  refine lv_iconst (v := 1) hx hb d_T_arrive_134 (by decide) ?_
                  subst hAe
                  have e_S : sp_ar (off, nm, ng, now, F, R) (nI i) y z = (0, 1, (off, nm, ng + 1 + 1, now, up_F (up_F (up_F F 6 i y) 7 i z) 8 i 1, sn_R (sn_R R ng 2 (nI i) y (F 0 i) z 1) (ng + 1) 6 (nI i) y (F 1 i) y 0)) := by simp only [sp_ar, hcl]; rw [if_pos ⟨hix, b6, b9⟩, if_neg (fun q => q.elim (fun z => z b12) (fun z => z.elim c13 c14)), if_pos (show F 2 i < now from Int32.not_le.mp c15), if_neg (show ¬ y = F 1 i from c20)]
                  refine vx_ret ?_
                  refine W.widen (k := 2) (n := 14) (by decide) (by decide) ?_
                  exact W.iret (v := 1) hx hb hr (fun t ht hW => ⟨⟨_, pg21, rfl, ⟨by rw [e_S], by rw [e_S]⟩, by rw [ht, e_S]; exact hP, by rw [e_S]; exact hD⟩, hS.F ht⟩) hS.2.2 d_T_arrive_135
            · refine lv_iconst (v := 0) hx hb d_T_arrive_67 (by decide) ?_
              subst hAe
              have e_S : sp_ar (off, nm, ng, now, F, R) (nI i) y z = (0, 0, (off, nm, ng, now, F, R)) := by simp only [sp_ar, hcl]; rw [if_pos ⟨hix, b6, b9⟩, if_pos (Or.inr (Or.inr c14))]
              refine vx_ret ?_
              refine W.widen (k := 2) (n := 14) (by decide) (by decide) ?_
              exact W.iret (v := 0) hx hb hr (fun t ht hW => ⟨⟨_, pg, rfl, ⟨by rw [e_S], by rw [e_S]⟩, by rw [ht, e_S]; exact hP, by rw [e_S]; exact hD⟩, hS.F ht⟩) hS.2.2 d_T_arrive_68
      · refine lv_if_ne (tgt := 40) hx hb d_T_arrive_27 (by decide) (fun q9 => absurd rfl q9) (fun _ => ?_)
        obtain ⟨sa9, hsa9⟩ := hY.2.2.2.1 (70, "no such movement, office or seal") (by decide)
        have e_S : sp_ar (off, nm, ng, now, F, R) (nI i) y z = (1, 0, (off, nm, ng, now, F, R)) := by simp only [sp_ar]; rw [if_neg (fun q => b9 q.2.2)]
        exact vx_throwS (A := A) hx hb hl0 hown (by decide +kernel) (by decide +kernel) (htw _ k_T_38) (htw _ kn_IllegalArgumentException) hsa9 (at_IllegalArgumentException htw hY) ag_IllegalArgumentException hXs.1 hXs.2 hS (hl.1.trans hml.symm) d_T_arrive_30 d_T_arrive_33 d_T_arrive_34 d_T_arrive_36 d_T_arrive_39 (fun x hx9 => (hne x hx9).elim) (Nat.le_of_ble_eq_true rfl) (Nat.le_of_ble_eq_true rfl) (Nat.le_of_ble_eq_true rfl) (Nat.le_of_ble_eq_true rfl) hlocks (fun t ht1 ht2 ht3 => ⟨(), trivial, ⟨rfl, by rw [e_S]⟩, ht2, fun q h1 _ => ht3 q h1⟩) (fun z hz => nomatch hz) (Nat.le_of_ble_eq_true rfl) (Nat.le_of_ble_eq_true rfl)
    · refine lv_if_eq (tgt := 30) hx hb d_T_arrive_17 (by decide) (fun _ => ?_) (fun q9 => absurd rfl q9)
      obtain ⟨sa9, hsa9⟩ := hY.2.2.2.1 (70, "no such movement, office or seal") (by decide)
      have e_S : sp_ar (off, nm, ng, now, F, R) (nI i) y z = (1, 0, (off, nm, ng, now, F, R)) := by simp only [sp_ar]; rw [if_neg (fun q => b6 q.2.1)]
      exact vx_throwS (A := A) hx hb hl0 hown (by decide +kernel) (by decide +kernel) (htw _ k_T_38) (htw _ kn_IllegalArgumentException) hsa9 (at_IllegalArgumentException htw hY) ag_IllegalArgumentException hXs.1 hXs.2 hS (hl.1.trans hml.symm) d_T_arrive_30 d_T_arrive_33 d_T_arrive_34 d_T_arrive_36 d_T_arrive_39 (fun x hx9 => (hne x hx9).elim) (Nat.le_of_ble_eq_true rfl) (Nat.le_of_ble_eq_true rfl) (Nat.le_of_ble_eq_true rfl) (Nat.le_of_ble_eq_true rfl) hlocks (fun t ht1 ht2 ht3 => ⟨(), trivial, ⟨rfl, by rw [e_S]⟩, ht2, fun q h1 _ => ht3 q h1⟩) (fun z hz => nomatch hz) (Nat.le_of_ble_eq_true rfl) (Nat.le_of_ble_eq_true rfl)
  · refine W.eq (g2 := F0 m 5 ls (.null :: [])) rfl ?_
    refine lv_astoreN (lv' := [(4, .null), (0, .ref o), (1, .int x), (2, .int y), (3, .int z)]) hx hb d_T_arrive_5 hl (by decide) rfl (fun ls hl => ?_)
    refine lv_aloadN hx hb d_T_arrive_7 (lv_at hl 0 rfl) ?_
    refine lv_ifnullN (tgt := 30) hx hb d_T_arrive_9 (by decide) ?_
    obtain ⟨sa9, hsa9⟩ := hY.2.2.2.1 (70, "no such movement, office or seal") (by decide)
    have e_S : sp_ar (off, nm, ng, now, F, R) x y z = (1, 0, (off, nm, ng, now, F, R)) := by simp only [sp_ar]; rw [if_neg (fun q => n3 q.1)]
    exact vx_throwS (A := A) hx hb hl0 hown (by decide +kernel) (by decide +kernel) (htw _ k_T_38) (htw _ kn_IllegalArgumentException) hsa9 (at_IllegalArgumentException htw hY) ag_IllegalArgumentException hXs.1 hXs.2 hS (hl.1.trans hml.symm) d_T_arrive_30 d_T_arrive_33 d_T_arrive_34 d_T_arrive_36 d_T_arrive_39 (fun x hx9 => (hne x hx9).elim) (Nat.le_of_ble_eq_true rfl) (Nat.le_of_ble_eq_true rfl) (Nat.le_of_ble_eq_true rfl) (Nat.le_of_ble_eq_true rfl) hlocks (fun t ht1 ht2 ht3 => ⟨(), trivial, ⟨rfl, by rw [e_S]⟩, ht2, fun q h1 _ => ht3 q h1⟩) (fun z hz => nomatch hz) (Nat.le_of_ble_eq_true rfl) (Nat.le_of_ble_eq_true rfl)
set_option maxHeartbeats 4000000 in
set_option maxRecDepth 100000 in
theorem t_T_receive (l : Launch) (D : va_G) (cM cG cI cJ : ClassId) (o am ag : Nat) (pm pg : Nat → Nat) (off : Int32) (nm ng : Nat) (now : Int32) (F : Nat → Nat → Int32) (R : Nat → Int32) (sz : Nat) (y : Int32) (x : Int32) (hl0 : l.stackTraces = false) (t9 : Nat) (hI : iv_S t9 (off, nm, ng, now, F, R)) : vx_Met l y_T_receive (Cond.code y_T_receive c_T_receive 5 (some .int) :: tw_L) ({ frames := 6, cells := 1, slots := 7, locals := 130 } : Room) (mu_P D (ws_C cM cG o am ag pm pg (off, nm, ng, now, F, R)) sz (sx_P (va_A (ws_C cM cG o am ag pm pg (off, nm, ng, now, F, R)) sz)) (yt_P D cM cG cI cJ) [.ref o, .int y, .int x]) (va_Qi (fun (r : Int32) (_ : (Nat → Nat)) => (sp_re (off, nm, ng, now, F, R) y x).1 = 0 ∧ r = (sp_re (off, nm, ng, now, F, R) y x).2.1) (mu_B D (ws_C cM cG o am ag pm pg (off, nm, ng, now, F, R)) sz (fun pg1 => ws_C cM cG o am ag pm pg1 (sp_re (off, nm, ng, now, F, R) y x).2.2)) (va_A (ws_C cM cG o am ag pm pg (off, nm, ng, now, F, R)) sz)) (vx_X (fun _ : Unit => True) (fun E _ _ => E = "java/lang/IllegalArgumentException" ∧ (sp_re (off, nm, ng, now, F, R) y x).1 = 1) (fun q => sz ≤ q)) 1 7 (va_A (ws_C cM cG o am ag pm pg (off, nm, ng, now, F, R)) sz) := by
  refine vx_ofW (cc := c_T_receive) (maxL := 5) (ret := (some .int)) (by decide) rfl ?_
  intro p e s m args below meth c s₁ B hml hne hv
  obtain ⟨rfl, hsz, hP, hD0, hX, hY⟩ := hv
  have hx := B.exec
  have hb := B.bytes
  have hr := B.returns
  have htw : ∀ w ∈ tw_L, w.before _ s = true := fun w hw => atoms_spec (ws := (Cond.code y_T_receive c_T_receive 5 (some .int) :: tw_L)) B.pre w (List.mem_cons_of_mem _ hw)
  have hown : s.vm.findClass R_T = some m.cls := findClass_of_methodNamed B.named
  have hlocks := B.notSynchronized
  have hC : CallFix p m c c_T_receive 5 s _ tw_L R_T := ⟨hx, hb, hml, hown, htw⟩
  have hK := hY.1
  have hl := lv_entry ([.ref o, .int y, .int x]) (n := 5) (Nat.le_of_ble_eq_true rfl)
  rw [lg_entry_eq]
  generalize (lg_sl ([.ref o, .int y, .int x]) ++ List.replicate (5 - (lg_sl ([.ref o, .int y, .int x])).length) Slot.unset).toArray = ls at hl ⊢
  have hl : lv_has ls 5 [(0, .ref o), (1, .int y), (2, .int x)] := hl
  subst hsz
  obtain ⟨A, hAe⟩ : ∃ A : Nat → Prop, A = va_A (ws_C cM cG o am ag pm pg (off, nm, ng, now, F, R)) s.heap.size := ⟨_, rfl⟩
  have hD : va_D A (ws_C cM cG o am ag pm pg (off, nm, ng, now, F, R)) := by rw [hAe]; exact hD0.self
  have hA : ∀ q : Nat, s.heap.size ≤ q → A q := fun q h => by rw [hAe]; exact Or.inr h
  have hS : va_S A s.heap s.heap [] := va_S.rf
  have hXs : sx_P A s s.heap := by rw [hAe]; exact hX
  obtain ⟨hof, hn20, hnow, ht4, hM, hZ, hG, hcn⟩ := id hI
  have hg200 : ng ≤ 200 := by have := cn_0 hM hcn; omega
  refine lv_aload_n hx hb d_T_receive_0 rfl (lv_at hl 0 rfl) ?_
  refine lv_iload_n hx hb d_T_receive_1 rfl (lv_at hl 2 rfl) ?_
  refine cp_Q (n := 1) [.int x] hC (t_T_findMessage l D cM cG cI cJ o am ag pm pg off nm ng now F R x hg200) ⟨kc_T_findMessage, kn_T, k_T_113, ki_T_findMessage, kv_T_findMessage⟩ (by decide +kernel) ⟨rfl, rfl, Nat.le_of_ble_eq_true rfl, Nat.le_of_ble_eq_true rfl⟩ x_0 (yt_Y D cM cG cI cJ) hY hP (va_recv hK hP (ci := 0) (q0 := 0) rfl rfl) rfl hl.1 rfl (Nat.le_of_ble_eq_true rfl) d_T_receive_2 ⟨Nat.le_of_ble_eq_true rfl, Nat.le_of_ble_eq_true rfl⟩ (fun r1 h2 => ?_)
  rcases h2 with ⟨j, hj, rfl, rfl⟩ | ⟨rfl, n3⟩
  · refine W.eq (g2 := F0 m 5 ls (.ref (pg j) :: [])) rfl ?_
    have hclj : (nI j).toNatClampNeg = j := nI_clamp (by omega)
    have hixj : is_ix ng (nI j) := ix_nI (by omega) hj
    refine lv_astore_n (lv' := [(3, .ref (pg j)), (0, .ref o), (1, .int y), (2, .int (nI j))]) hx hb d_T_receive_5 rfl hl (by decide) rfl (fun ls hl => ?_)
    refine lv_aload_n hx hb d_T_receive_6 rfl (lv_at hl 1 rfl) ?_
    refine lv_iload_n hx hb d_T_receive_7 rfl (lv_at hl 2 rfl) ?_
    refine cp_V (n := 1) [.int y] hC (t_T_isOffice l D cM cG cI cJ o am ag pm pg off nm ng now F R y) ⟨kc_T_isOffice, kn_T, k_T_34, ki_T_isOffice, kv_T_isOffice⟩ (by decide +kernel) ⟨rfl, rfl, Nat.le_of_ble_eq_true rfl, Nat.le_of_ble_eq_true rfl⟩ x_0 (yt_Y D cM cG cI cJ) hY hP (va_recv hK hP (ci := 0) (q0 := 0) rfl rfl) rfl hl.1 rfl (Nat.le_of_ble_eq_true rfl) d_T_receive_8 ⟨Nat.le_of_ble_eq_true rfl, Nat.le_of_ble_eq_true rfl⟩ (fun r4 h5 => ?_)
    rcases h5 with ⟨rfl, b6⟩ | ⟨rfl, b6⟩
    · refine lv_if_eq (tgt := 18) hx hb d_T_receive_11 (by decide) (fun q9 => absurd q9 (by decide)) (fun _ => ?_)
      refine lv_aload_n hx hb d_T_receive_14 rfl (lv_at hl 0 rfl) ?_
      refine lv_ifnonnull (tgt := 28) hx hb d_T_receive_15 (by decide) ?_
      refine lv_aload_n hx hb d_T_receive_28 rfl (lv_at hl 0 rfl) ?_
      refine va_get (D := D) (C := R_G) (T := F_G) (N := 7) hx hb htw uw_G hown hK hP (nm + j + 3) (ms_at hj) rfl 6 (by decide) (htw _ k_T_119) (fun _ h9 => h9) rfl d_T_receive_29 ?_
      refine lv_if_ne (tgt := 43) hx hb d_T_receive_32 (by decide) (fun c7 => ?_) (fun c7 => ?_)
      · refine lv_iconst (v := 0) hx hb d_T_receive_43 (by decide) ?_
        subst hAe
        have e_S : sp_re (off, nm, ng, now, F, R) y (nI j) = (0, 0, (off, nm, ng, now, F, R)) := by simp only [sp_re, hclj]; rw [if_pos ⟨b6, hixj⟩, if_pos (Or.inl c7)]
        refine vx_ret ?_
        refine W.widen (k := 1) (n := 7) (by decide) (by decide) ?_
        exact W.iret (v := 0) hx hb hr (fun t ht hW => ⟨⟨_, pg, rfl, ⟨by rw [e_S], by rw [e_S]⟩, by rw [ht, e_S]; exact hP, by rw [e_S]; exact hD⟩, hS.F ht⟩) hS.2.2 d_T_receive_44
      · refine lv_aload_n hx hb d_T_receive_35 rfl (lv_at hl 0 rfl) ?_
        refine va_get (D := D) (C := R_G) (T := F_G) (N := 7) hx hb htw uw_G hown hK hP (nm + j + 3) (ms_at hj) rfl 3 (by decide) (htw _ k_T_122) (fun _ h9 => h9) rfl d_T_receive_36 ?_
        refine lv_iload_n hx hb d_T_receive_39 rfl (lv_at hl 2 rfl) ?_
        refine lv_icmp_eq (tgt := 45) hx hb d_T_receive_40 (by decide) (fun c8 => ?_) (fun c8 => ?_)
        · refine lv_aload_n hx hb d_T_receive_45 rfl (lv_at hl 0 rfl) ?_
          refine lv_iconst (v := 1) hx hb d_T_receive_46 (by decide) ?_
          refine va_put (D := D) (ci := 2) (v := .int 1) (ty := .int) (C := R_G) (T := F_G) (N := 7) hx hb htw uw_G ft_G tk_G n_G hown hK hP hD hS (nm + j + 3) (ms_at hj) rfl 6 (by decide) (htw _ k_T_119) (fun _ h9 => h9) rfl (by decide +kernel) rfl rfl (Nat.le_of_ble_eq_true rfl) d_T_receive_47 (fun H locs hP hD hS => ?_)
          rw [ms_put hj] at hP hD
          have hP : va_P D cl_L (ws_C cM cG o am ag pm pg (off, nm, ng, now, F, upd R (7 * j + 6) 1)) H := hP
          have hD : va_D A (ws_C cM cG o am ag pm pg (off, nm, ng, now, F, upd R (7 * j + 6) 1)) := hD
          refine lv_aload_n hx hb d_T_receive_50 rfl (lv_at hl 1 rfl) ?_
          refine lv_aload_n hx hb d_T_receive_51 rfl (lv_at hl 0 rfl) ?_
          refine va_get (D := D) (C := R_G) (T := F_G) (N := 7) hx hb htw uw_G hown hK hP (nm + j + 3) (ms_at hj) rfl 1 (by decide) (htw _ k_T_125) (fun _ h9 => h9) rfl d_T_receive_52 ?_
          refine cp_Q (n := 1) [.int ((upd R (7 * j + 6) 1) (7 * j + 1))] hC (t_T_findMovement l D cM cG cI cJ o am ag pm pg off nm ng now F (upd R (7 * j + 6) 1) ((upd R (7 * j + 6) 1) (7 * j + 1)) hn20) ⟨kc_T_findMovement, kn_T, k_T_66, ki_T_findMovement, kv_T_findMovement⟩ (by decide +kernel) ⟨rfl, rfl, Nat.le_of_ble_eq_true rfl, Nat.le_of_ble_eq_true rfl⟩ x_0 (yt_Y D cM cG cI cJ) hY hP (va_recv hK hP (ci := 0) (q0 := 0) rfl rfl) rfl hl.1 rfl (Nat.le_of_ble_eq_true rfl) d_T_receive_55 ⟨Nat.le_of_ble_eq_true rfl, Nat.le_of_ble_eq_true rfl⟩ (fun r9 h10 => ?_)
          rcases h10 with ⟨i, hi, hxi, rfl⟩ | ⟨rfl, n11⟩
          · refine W.eq (g2 := F0 m 58 ls (.ref (pm i) :: [])) rfl ?_
            have hcl : (nI i).toNatClampNeg = i := nI_clamp (by omega)
            have hix : is_ix nm (nI i) := ix_nI (by omega) hi
            have hMi := hM i hi
            refine lv_astore (lv' := [(4, .ref (pm i)), (3, .ref (pg j)), (0, .ref o), (1, .int y), (2, .int (nI j))]) hx hb d_T_receive_58 hl (by decide) rfl (fun ls hl => ?_)
            refine lv_aload hx hb d_T_receive_60 (lv_at hl 0 rfl) ?_
            refine lv_ifnull hx hb d_T_receive_62 ?_
            refine lv_aload_n hx hb d_T_receive_65 rfl (lv_at hl 2 rfl) ?_
            refine lv_aload_n hx hb d_T_receive_66 rfl (lv_at hl 1 rfl) ?_
            refine lv_aload hx hb d_T_receive_67 (lv_at hl 0 rfl) ?_
            have hF9 := wk_F hD hS hA
            refine cm_V (n := 2) [.ref (pg j), .ref (pm i)] hC (t_T_actOn l D cM cG cI cJ o am ag pm pg off nm ng now F (upd R (7 * j + 6) 1) _ i j hi hj (by rw [hxi]; exact hcl) (m_8 hMi) (m_17 hMi) (m_18 hMi) (fun q => by have := cn_re hM hcn hj (by rw [← q]; exact (upd_n (by omega)).symm) (by rw [c7]; decide); omega)) ⟨kc_T_actOn, kn_T, k_T_128, ki_T_actOn, kv_T_actOn⟩ (by decide +kernel) ⟨rfl, rfl, Nat.le_of_ble_eq_true rfl, Nat.le_of_ble_eq_true rfl⟩ x_0 (yt_Y D cM cG cI cJ) hY trivial (va_recv hK hP (ci := 0) (q0 := 0) rfl rfl) hP (wk_T hD) hS hF9 rfl hl.1 rfl (Nat.le_of_ble_eq_true rfl) d_T_receive_69 ⟨Nat.le_of_ble_eq_true rfl, Nat.le_of_ble_eq_true rfl⟩ (fun pg12 H locs hw9 hP1 hD1 hz9 hk9 hS => ?_)
            have hP : va_P D cl_L (ws_C cM cG o am ag pm pg12 (ac_S (off, nm, ng, now, F, upd R (7 * j + 6) 1) j)) H := hP1
            have hD : va_D A (ws_C cM cG o am ag pm pg12 (ac_S (off, nm, ng, now, F, upd R (7 * j + 6) 1) j)) := wk_D hD1 hF9
            refine lv_iconst (v := 1) hx hb d_T_receive_72 (by decide) ?_
            subst hAe
            have e_S : sp_re (off, nm, ng, now, F, R) y (nI j) = (0, 1, ac_S (off, nm, ng, now, F, upd R (7 * j + 6) 1) j) := by simp only [sp_re, hclj]; rw [if_pos ⟨b6, hixj⟩, if_neg (fun q => q.elim (fun z => z c7) (fun z => z c8))]
            refine vx_ret ?_
            refine W.widen (k := 1) (n := 7) (by decide) (by decide) ?_
            exact W.iret (v := 1) hx hb hr (fun t ht hW => ⟨⟨_, pg12, rfl, ⟨by rw [e_S], by rw [e_S]⟩, by rw [ht, e_S]; exact hP, by rw [e_S]; exact hD⟩, hS.F ht⟩) hS.2.2 d_T_receive_73
          · exact absurd (show is_ix nm (upd R (7 * j + 6) 1 (7 * j + 1)) by rw [upd_n (by omega)]; exact (hG j hj).1) n11
        · refine lv_iconst (v := 0) hx hb d_T_receive_43 (by decide) ?_
          subst hAe
          have e_S : sp_re (off, nm, ng, now, F, R) y (nI j) = (0, 0, (off, nm, ng, now, F, R)) := by simp only [sp_re, hclj]; rw [if_pos ⟨b6, hixj⟩, if_pos (Or.inr c8)]
          refine vx_ret ?_
          refine W.widen (k := 1) (n := 7) (by decide) (by decide) ?_
          exact W.iret (v := 0) hx hb hr (fun t ht hW => ⟨⟨_, pg, rfl, ⟨by rw [e_S], by rw [e_S]⟩, by rw [ht, e_S]; exact hP, by rw [e_S]; exact hD⟩, hS.F ht⟩) hS.2.2 d_T_receive_44
    · refine lv_if_eq (tgt := 18) hx hb d_T_receive_11 (by decide) (fun _ => ?_) (fun q9 => absurd rfl q9)
      obtain ⟨sa9, hsa9⟩ := hY.2.2.2.1 (117, "no such office or message") (by decide)
      have e_S : sp_re (off, nm, ng, now, F, R) y (nI j) = (1, 0, (off, nm, ng, now, F, R)) := by simp only [sp_re]; rw [if_neg (fun q => b6 q.1)]
      exact vx_throwS (A := A) hx hb hl0 hown (by decide +kernel) (by decide +kernel) (htw _ k_T_38) (htw _ kn_IllegalArgumentException) hsa9 (at_IllegalArgumentException htw hY) ag_IllegalArgumentException hXs.1 hXs.2 hS (hl.1.trans hml.symm) d_T_receive_18 d_T_receive_21 d_T_receive_22 d_T_receive_24 d_T_receive_27 (fun x hx9 => (hne x hx9).elim) (Nat.le_of_ble_eq_true rfl) (Nat.le_of_ble_eq_true rfl) (Nat.le_of_ble_eq_true rfl) (Nat.le_of_ble_eq_true rfl) hlocks (fun t ht1 ht2 ht3 => ⟨(), trivial, ⟨rfl, by rw [e_S]⟩, ht2, fun q h1 _ => ht3 q h1⟩) (fun z hz => nomatch hz) (Nat.le_of_ble_eq_true rfl) (Nat.le_of_ble_eq_true rfl)
  · refine W.eq (g2 := F0 m 5 ls (.null :: [])) rfl ?_
    refine lv_astore_nN (lv' := [(3, .null), (0, .ref o), (1, .int y), (2, .int x)]) hx hb d_T_receive_5 rfl hl (by decide) rfl (fun ls hl => ?_)
    refine lv_aload_n hx hb d_T_receive_6 rfl (lv_at hl 1 rfl) ?_
    refine lv_iload_n hx hb d_T_receive_7 rfl (lv_at hl 2 rfl) ?_
    refine cp_V (n := 1) [.int y] hC (t_T_isOffice l D cM cG cI cJ o am ag pm pg off nm ng now F R y) ⟨kc_T_isOffice, kn_T, k_T_34, ki_T_isOffice, kv_T_isOffice⟩ (by decide +kernel) ⟨rfl, rfl, Nat.le_of_ble_eq_true rfl, Nat.le_of_ble_eq_true rfl⟩ x_0 (yt_Y D cM cG cI cJ) hY hP (va_recv hK hP (ci := 0) (q0 := 0) rfl rfl) rfl hl.1 rfl (Nat.le_of_ble_eq_true rfl) d_T_receive_8 ⟨Nat.le_of_ble_eq_true rfl, Nat.le_of_ble_eq_true rfl⟩ (fun r13 h14 => ?_)
    rcases h14 with ⟨rfl, b15⟩ | ⟨rfl, b15⟩
    · refine lv_if_eq (tgt := 18) hx hb d_T_receive_11 (by decide) (fun q9 => absurd q9 (by decide)) (fun _ => ?_)
      refine lv_aload_nN hx hb d_T_receive_14 rfl (lv_at hl 0 rfl) ?_
      refine lv_ifnonnullN hx hb d_T_receive_15 ?_
      obtain ⟨sa9, hsa9⟩ := hY.2.2.2.1 (117, "no such office or message") (by decide)
      have e_S : sp_re (off, nm, ng, now, F, R) y x = (1, 0, (off, nm, ng, now, F, R)) := by simp only [sp_re]; rw [if_neg (fun q => n3 q.2)]
      exact vx_throwS (A := A) hx hb hl0 hown (by decide +kernel) (by decide +kernel) (htw _ k_T_38) (htw _ kn_IllegalArgumentException) hsa9 (at_IllegalArgumentException htw hY) ag_IllegalArgumentException hXs.1 hXs.2 hS (hl.1.trans hml.symm) d_T_receive_18 d_T_receive_21 d_T_receive_22 d_T_receive_24 d_T_receive_27 (fun x hx9 => (hne x hx9).elim) (Nat.le_of_ble_eq_true rfl) (Nat.le_of_ble_eq_true rfl) (Nat.le_of_ble_eq_true rfl) (Nat.le_of_ble_eq_true rfl) hlocks (fun t ht1 ht2 ht3 => ⟨(), trivial, ⟨rfl, by rw [e_S]⟩, ht2, fun q h1 _ => ht3 q h1⟩) (fun z hz => nomatch hz) (Nat.le_of_ble_eq_true rfl) (Nat.le_of_ble_eq_true rfl)
    · refine lv_if_eq (tgt := 18) hx hb d_T_receive_11 (by decide) (fun _ => ?_) (fun q9 => absurd rfl q9)
      obtain ⟨sa9, hsa9⟩ := hY.2.2.2.1 (117, "no such office or message") (by decide)
      have e_S : sp_re (off, nm, ng, now, F, R) y x = (1, 0, (off, nm, ng, now, F, R)) := by simp only [sp_re]; rw [if_neg (fun q => b15 q.1)]
      exact vx_throwS (A := A) hx hb hl0 hown (by decide +kernel) (by decide +kernel) (htw _ k_T_38) (htw _ kn_IllegalArgumentException) hsa9 (at_IllegalArgumentException htw hY) ag_IllegalArgumentException hXs.1 hXs.2 hS (hl.1.trans hml.symm) d_T_receive_18 d_T_receive_21 d_T_receive_22 d_T_receive_24 d_T_receive_27 (fun x hx9 => (hne x hx9).elim) (Nat.le_of_ble_eq_true rfl) (Nat.le_of_ble_eq_true rfl) (Nat.le_of_ble_eq_true rfl) (Nat.le_of_ble_eq_true rfl) hlocks (fun t ht1 ht2 ht3 => ⟨(), trivial, ⟨rfl, by rw [e_S]⟩, ht2, fun q h1 _ => ht3 q h1⟩) (fun z hz => nomatch hz) (Nat.le_of_ble_eq_true rfl) (Nat.le_of_ble_eq_true rfl)
set_option maxHeartbeats 4000000 in
set_option maxRecDepth 100000 in
theorem t_T_lose (l : Launch) (D : va_G) (cM cG cI cJ : ClassId) (o am ag : Nat) (pm pg : Nat → Nat) (off : Int32) (nm ng : Nat) (now : Int32) (F : Nat → Nat → Int32) (R : Nat → Int32) (sz : Nat) (x : Int32) (hg200 : ng ≤ 200) : Met l y_T_lose (Cond.code y_T_lose c_T_lose 3 (some .boolean) :: tw_L) ({ frames := 1, cells := 0, slots := 0, locals := 21 } : Room) (mu_P D (ws_C cM cG o am ag pm pg (off, nm, ng, now, F, R)) sz (fun _ _ => True) (yt_P D cM cG cI cJ) [.ref o, .int x]) (va_Qi (fun (r : Int32) (_ : Unit) => r = (sp_lo (off, nm, ng, now, F, R) x).1) (mu_B D (ws_C cM cG o am ag pm pg (off, nm, ng, now, F, R)) sz (fun _ => ws_C cM cG o am ag pm pg (sp_lo (off, nm, ng, now, F, R) x).2)) (va_A (ws_C cM cG o am ag pm pg (off, nm, ng, now, F, R)) sz)) 0 0 (va_A (ws_C cM cG o am ag pm pg (off, nm, ng, now, F, R)) sz) := by
  refine Met.ofW (cc := c_T_lose) (maxL := 3) (ret := (some .boolean)) (by decide) rfl ?_
  intro p e s m args below meth c s₁ B hml hv
  obtain ⟨rfl, hsz, hP, hD0, hX, hY⟩ := hv
  have hx := B.exec
  have hb := B.bytes
  have hr := B.returns
  have htw : ∀ w ∈ tw_L, w.before _ s = true := fun w hw => atoms_spec (ws := (Cond.code y_T_lose c_T_lose 3 (some .boolean) :: tw_L)) B.pre w (List.mem_cons_of_mem _ hw)
  have hown : s.vm.findClass R_T = some m.cls := findClass_of_methodNamed B.named
  have hlocks := B.notSynchronized
  have hC : CallFix p m c c_T_lose 3 s _ tw_L R_T := ⟨hx, hb, hml, hown, htw⟩
  have hK := hY.1
  have hl := lv_entry ([.ref o, .int x]) (n := 3) (Nat.le_of_ble_eq_true rfl)
  rw [lg_entry_eq]
  generalize (lg_sl ([.ref o, .int x]) ++ List.replicate (3 - (lg_sl ([.ref o, .int x])).length) Slot.unset).toArray = ls at hl ⊢
  have hl : lv_has ls 3 [(0, .ref o), (1, .int x)] := hl
  subst hsz
  obtain ⟨A, hAe⟩ : ∃ A : Nat → Prop, A = va_A (ws_C cM cG o am ag pm pg (off, nm, ng, now, F, R)) s.heap.size := ⟨_, rfl⟩
  have hD : va_D A (ws_C cM cG o am ag pm pg (off, nm, ng, now, F, R)) := by rw [hAe]; exact hD0.self
  have hA : ∀ q : Nat, s.heap.size ≤ q → A q := fun q h => by rw [hAe]; exact Or.inr h
  have hS : va_S A s.heap s.heap [] := va_S.rf
  have hM : ∀ i : Nat, i < nm → True := fun _ _ => trivial
  refine lv_aload_n hx hb d_T_lose_0 rfl (lv_at hl 0 rfl) ?_
  refine lv_iload_n hx hb d_T_lose_1 rfl (lv_at hl 1 rfl) ?_
  refine cp_Q (n := 1) [.int x] hC (t_T_findMessage l D cM cG cI cJ o am ag pm pg off nm ng now F R x hg200) ⟨kc_T_findMessage, kn_T, k_T_113, ki_T_findMessage, kv_T_findMessage⟩ (by decide +kernel) ⟨rfl, rfl, Nat.le_of_ble_eq_true rfl, Nat.le_of_ble_eq_true rfl⟩ x_0 (yt_Y D cM cG cI cJ) hY hP (va_recv hK hP (ci := 0) (q0 := 0) rfl rfl) rfl hl.1 rfl (Nat.le_of_ble_eq_true rfl) d_T_lose_2 ⟨Nat.le_of_ble_eq_true rfl, Nat.le_of_ble_eq_true rfl⟩ (fun r1 h2 => ?_)
  rcases h2 with ⟨j, hj, rfl, rfl⟩ | ⟨rfl, n3⟩
  · refine W.eq (g2 := F0 m 5 ls (.ref (pg j) :: [])) rfl ?_
    have hclj : (nI j).toNatClampNeg = j := nI_clamp (by omega)
    have hixj : is_ix ng (nI j) := ix_nI (by omega) hj
    refine lv_astore_n (lv' := [(2, .ref (pg j)), (0, .ref o), (1, .int (nI j))]) hx hb d_T_lose_5 rfl hl (by decide) rfl (fun ls hl => ?_)
    refine lv_aload_n hx hb d_T_lose_6 rfl (lv_at hl 0 rfl) ?_
    refine lv_ifnull hx hb d_T_lose_7 ?_
    refine lv_aload_n hx hb d_T_lose_10 rfl (lv_at hl 0 rfl) ?_
    refine va_get (D := D) (C := R_G) (T := F_G) (N := 7) hx hb htw uw_G hown hK hP (nm + j + 3) (ms_at hj) rfl 6 (by decide) (htw _ k_T_119) (fun _ h9 => h9) rfl d_T_lose_11 ?_
    refine lv_if_eq (tgt := 19) hx hb d_T_lose_14 (by decide) (fun c4 => ?_) (fun c4 => ?_)
    · refine lv_aload_n hx hb d_T_lose_19 rfl (lv_at hl 0 rfl) ?_
      refine lv_iconst (v := 2) hx hb d_T_lose_20 (by decide) ?_
      refine va_put (D := D) (ci := 2) (v := .int 2) (ty := .int) (C := R_G) (T := F_G) (N := 7) hx hb htw uw_G ft_G tk_G n_G hown hK hP hD hS (nm + j + 3) (ms_at hj) rfl 6 (by decide) (htw _ k_T_119) (fun _ h9 => h9) rfl (by decide +kernel) rfl rfl (Nat.le_of_ble_eq_true rfl) d_T_lose_21 (fun H locs hP hD hS => ?_)
      rw [ms_put hj] at hP hD
      have hP : va_P D cl_L (ws_C cM cG o am ag pm pg (off, nm, ng, now, F, upd R (7 * j + 6) 2)) H := hP
      have hD : va_D A (ws_C cM cG o am ag pm pg (off, nm, ng, now, F, upd R (7 * j + 6) 2)) := hD
      refine lv_iconst (v := 1) hx hb d_T_lose_24 (by decide) ?_
      subst hAe
      have e_S : sp_lo (off, nm, ng, now, F, R) (nI j) = (1, (off, nm, ng, now, F, upd R (7 * j + 6) 2)) := by simp only [sp_lo, hclj]; rw [if_pos ⟨hixj, c4⟩]
      exact W.zret (v := 1) hx hb hr (by decide) (fun t ht hW => ⟨⟨_, (), rfl, by rw [e_S], by rw [ht, e_S]; exact hP, by rw [e_S]; exact hD⟩, hS.F ht⟩) hS.2.2 d_T_lose_25
    · refine lv_iconst (v := 0) hx hb d_T_lose_17 (by decide) ?_
      subst hAe
      have e_S : sp_lo (off, nm, ng, now, F, R) (nI j) = (0, (off, nm, ng, now, F, R)) := by simp only [sp_lo, hclj]; rw [if_neg (fun q => c4 q.2)]
      exact W.zret (v := 0) hx hb hr (by decide) (fun t ht hW => ⟨⟨_, (), rfl, by rw [e_S], by rw [ht, e_S]; exact hP, by rw [e_S]; exact hD⟩, hS.F ht⟩) hS.2.2 d_T_lose_18
  · refine W.eq (g2 := F0 m 5 ls (.null :: [])) rfl ?_
    refine lv_astore_nN (lv' := [(2, .null), (0, .ref o), (1, .int x)]) hx hb d_T_lose_5 rfl hl (by decide) rfl (fun ls hl => ?_)
    refine lv_aload_nN hx hb d_T_lose_6 rfl (lv_at hl 0 rfl) ?_
    refine lv_ifnullN (tgt := 17) hx hb d_T_lose_7 (by decide) ?_
    refine lv_iconst (v := 0) hx hb d_T_lose_17 (by decide) ?_
    subst hAe
    have e_S : sp_lo (off, nm, ng, now, F, R) x = (0, (off, nm, ng, now, F, R)) := by simp only [sp_lo]; rw [if_neg (fun q => n3 q.1)]
    exact W.zret (v := 0) hx hb hr (by decide) (fun t ht hW => ⟨⟨_, (), rfl, by rw [e_S], by rw [ht, e_S]; exact hP, by rw [e_S]; exact hD⟩, hS.F ht⟩) hS.2.2 d_T_lose_18
