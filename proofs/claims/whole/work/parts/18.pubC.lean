theorem wi_6 {x : Int32} (h0 : ¬ x = 0) (h1 : ¬ x = 1) (h2 : ¬ x = 2) (h3 : ¬ x = 3) (h4 : ¬ x = 4) (h5 : ¬ x = 5) (h6 : ¬ x = 6) : ¬ is_wi x 0 6 := by
  rintro ⟨a, b⟩
  rw [i_lt] at a b
  have q0 := ne_I (n := 0) h0
  have q1 := ne_I (n := 1) h1
  have q2 := ne_I (n := 2) h2
  have q3 := ne_I (n := 3) h3
  have q4 := ne_I (n := 4) h4
  have q5 := ne_I (n := 5) h5
  have q6 := ne_I (n := 6) h6
  have e0 : (0 : Int32).toInt = 0 := rfl
  have e6 : (6 : Int32).toInt = 6 := rfl
  omega
set_option maxHeartbeats 4000000 in
set_option maxRecDepth 100000 in
theorem t_T_state (l : Launch) (D : va_G) (cM cG cI cJ : ClassId) (o am ag : Nat) (pm pg : Nat → Nat) (off : Int32) (nm ng : Nat) (now : Int32) (F : Nat → Nat → Int32) (R : Nat → Int32) (sz : Nat) (x : Int32) (y : Int32) (hl0 : l.stackTraces = false) (t9 : Nat) (hI : iv_S t9 (off, nm, ng, now, F, R)) : vx_Met l y_T_state (Cond.code y_T_state c_T_state 4 (some .int) :: tw_L) ({ frames := 6, cells := 1, slots := 6, locals := 82 } : Room) (mu_P D (ws_C cM cG o am ag pm pg (off, nm, ng, now, F, R)) sz (sx_P (va_A (ws_C cM cG o am ag pm pg (off, nm, ng, now, F, R)) sz)) (yt_P D cM cG cI cJ) [.ref o, .int x, .int y]) (va_Qi (fun (r : Int32) (_ : Unit) => (sp_st (off, nm, ng, now, F, R) x y).1 = 0 ∧ r = (sp_st (off, nm, ng, now, F, R) x y).2) (mu_B D (ws_C cM cG o am ag pm pg (off, nm, ng, now, F, R)) sz (fun _ => (ws_C cM cG o am ag pm pg (off, nm, ng, now, F, R)))) (va_A (ws_C cM cG o am ag pm pg (off, nm, ng, now, F, R)) sz)) (vx_X (fun _ : Unit => True) (fun E _ _ => E = "java/lang/IndexOutOfBoundsException" ∧ (sp_st (off, nm, ng, now, F, R) x y).1 = 1) (fun q => sz ≤ q)) 1 6 (va_A (ws_C cM cG o am ag pm pg (off, nm, ng, now, F, R)) sz) := by
  refine vx_ofW (cc := c_T_state) (maxL := 4) (ret := (some .int)) (by decide) rfl ?_
  intro p e s m args below meth c s₁ B hml hne hv
  obtain ⟨rfl, hsz, hP, hD0, hX, hY⟩ := hv
  have hx := B.exec
  have hb := B.bytes
  have hr := B.returns
  have htw : ∀ w ∈ tw_L, w.before _ s = true := fun w hw => atoms_spec (ws := (Cond.code y_T_state c_T_state 4 (some .int) :: tw_L)) B.pre w (List.mem_cons_of_mem _ hw)
  have hown : s.vm.findClass R_T = some m.cls := findClass_of_methodNamed B.named
  have hlocks := B.notSynchronized
  have hC : CallFix p m c c_T_state 4 s _ tw_L R_T := ⟨hx, hb, hml, hown, htw⟩
  have hK := hY.1
  have hl := lv_entry ([.ref o, .int x, .int y]) (n := 4) (Nat.le_of_ble_eq_true rfl)
  rw [lg_entry_eq]
  generalize (lg_sl ([.ref o, .int x, .int y]) ++ List.replicate (4 - (lg_sl ([.ref o, .int x, .int y])).length) Slot.unset).toArray = ls at hl ⊢
  have hl : lv_has ls 4 [(0, .ref o), (1, .int x), (2, .int y)] := hl
  subst hsz
  obtain ⟨A, hAe⟩ : ∃ A : Nat → Prop, A = va_A (ws_C cM cG o am ag pm pg (off, nm, ng, now, F, R)) s.heap.size := ⟨_, rfl⟩
  have hD : va_D A (ws_C cM cG o am ag pm pg (off, nm, ng, now, F, R)) := by rw [hAe]; exact hD0.self
  have hA : ∀ q : Nat, s.heap.size ≤ q → A q := fun q h => by rw [hAe]; exact Or.inr h
  have hS : va_S A s.heap s.heap [] := va_S.rf
  have hXs : sx_P A s s.heap := by rw [hAe]; exact hX
  obtain ⟨hof, hn20, hnow, ht4, hM, hZ, hG, hcn⟩ := id hI
  have hg200 : ng ≤ 200 := by have := cn_0 hM hcn; omega
  refine lv_aload_n hx hb d_T_state_0 rfl (lv_at hl 0 rfl) ?_
  refine lv_iload_n hx hb d_T_state_1 rfl (lv_at hl 1 rfl) ?_
  refine cp_Q (n := 1) [.int x] hC (t_T_findMovement l D cM cG cI cJ o am ag pm pg off nm ng now F R x hn20) ⟨kc_T_findMovement, kn_T, k_T_66, ki_T_findMovement, kv_T_findMovement⟩ (by decide +kernel) ⟨rfl, rfl, Nat.le_of_ble_eq_true rfl, Nat.le_of_ble_eq_true rfl⟩ x_0 (yt_Y D cM cG cI cJ) hY hP (va_recv hK hP (ci := 0) (q0 := 0) rfl rfl) rfl hl.1 rfl (Nat.le_of_ble_eq_true rfl) d_T_state_2 ⟨Nat.le_of_ble_eq_true rfl, Nat.le_of_ble_eq_true rfl⟩ (fun r1 h2 => ?_)
  rcases h2 with ⟨i, hi, rfl, rfl⟩ | ⟨rfl, n3⟩
  · refine W.eq (g2 := F0 m 5 ls (.ref (pm i) :: [])) rfl ?_
    have hcl : (nI i).toNatClampNeg = i := nI_clamp (by omega)
    have hix : is_ix nm (nI i) := ix_nI (by omega) hi
    have hMi := hM i hi
    refine lv_astore_n (lv' := [(3, .ref (pm i)), (0, .ref o), (1, .int (nI i)), (2, .int y)]) hx hb d_T_state_5 rfl hl (by decide) rfl (fun ls hl => ?_)
    refine lv_aload_n hx hb d_T_state_6 rfl (lv_at hl 0 rfl) ?_
    refine lv_ifnonnull (tgt := 20) hx hb d_T_state_7 (by decide) ?_
    refine lv_iload_n hx hb d_T_state_20 rfl (lv_at hl 3 rfl) ?_
    by_cases e4 : y = 0
    · refine sk_as e4 ?_
      refine lv_tableIn (off := 51) (tgt := 72) hx hb d_T_state_21 (by decide) (by decide) rfl (by decide) ?_
      refine lv_aload_n hx hb d_T_state_72 rfl (lv_at hl 0 rfl) ?_
      refine va_get (D := D) (C := R_V) (T := F_V) (N := 19) hx hb htw uw_V hown hK hP (i + 3) (mv_at hi) rfl 10 (by decide) (htw _ k_T_79) (fun _ h9 => h9) rfl d_T_state_73 ?_
      subst hAe
      have e_S : sp_st (off, nm, ng, now, F, R) (nI i) y = (0, (F 10 i)) := by simp only [sp_st, hcl]; rw [if_pos hix, if_pos e4]
      refine vx_ret ?_
      refine W.widen (k := 1) (n := 6) (by decide) (by decide) ?_
      exact W.iret (v := (F 10 i)) hx hb hr (fun t ht hW => ⟨⟨_, (), rfl, ⟨by rw [e_S], by rw [e_S]⟩, by rw [ht]; exact hP, hD⟩, hS.F ht⟩) hS.2.2 d_T_state_76
    · by_cases e5 : y = 1
      · refine sk_as e5 ?_
        refine lv_tableIn (off := 56) (tgt := 77) hx hb d_T_state_21 (by decide) (by decide) rfl (by decide) ?_
        refine lv_aload_n hx hb d_T_state_77 rfl (lv_at hl 0 rfl) ?_
        refine va_get (D := D) (C := R_V) (T := F_V) (N := 19) hx hb htw uw_V hown hK hP (i + 3) (mv_at hi) rfl 11 (by decide) (htw _ k_T_147) (fun _ h9 => h9) rfl d_T_state_78 ?_
        subst hAe
        have e_S : sp_st (off, nm, ng, now, F, R) (nI i) y = (0, (F 11 i)) := by simp only [sp_st, hcl]; rw [if_pos hix, if_neg e4, if_pos e5]
        refine vx_ret ?_
        refine W.widen (k := 1) (n := 6) (by decide) (by decide) ?_
        exact W.iret (v := (F 11 i)) hx hb hr (fun t ht hW => ⟨⟨_, (), rfl, ⟨by rw [e_S], by rw [e_S]⟩, by rw [ht]; exact hP, hD⟩, hS.F ht⟩) hS.2.2 d_T_state_81
      · by_cases e6 : y = 2
        · refine sk_as e6 ?_
          refine lv_tableIn (off := 61) (tgt := 82) hx hb d_T_state_21 (by decide) (by decide) rfl (by decide) ?_
          refine lv_aload_n hx hb d_T_state_82 rfl (lv_at hl 0 rfl) ?_
          refine va_get (D := D) (C := R_V) (T := F_V) (N := 19) hx hb htw uw_V hown hK hP (i + 3) (mv_at hi) rfl 12 (by decide) (htw _ k_T_155) (fun _ h9 => h9) rfl d_T_state_83 ?_
          subst hAe
          have e_S : sp_st (off, nm, ng, now, F, R) (nI i) y = (0, (F 12 i)) := by simp only [sp_st, hcl]; rw [if_pos hix, if_neg e4, if_neg e5, if_pos e6]
          refine vx_ret ?_
          refine W.widen (k := 1) (n := 6) (by decide) (by decide) ?_
          exact W.iret (v := (F 12 i)) hx hb hr (fun t ht hW => ⟨⟨_, (), rfl, ⟨by rw [e_S], by rw [e_S]⟩, by rw [ht]; exact hP, hD⟩, hS.F ht⟩) hS.2.2 d_T_state_86
        · by_cases e7 : y = 3
          · refine sk_as e7 ?_
            refine lv_tableIn (off := 66) (tgt := 87) hx hb d_T_state_21 (by decide) (by decide) rfl (by decide) ?_
            refine lv_aload_n hx hb d_T_state_87 rfl (lv_at hl 0 rfl) ?_
            refine va_get (D := D) (C := R_V) (T := F_V) (N := 19) hx hb htw uw_V hown hK hP (i + 3) (mv_at hi) rfl 13 (by decide) (htw _ k_T_161) (fun _ h9 => h9) rfl d_T_state_88 ?_
            subst hAe
            have e_S : sp_st (off, nm, ng, now, F, R) (nI i) y = (0, (F 13 i)) := by simp only [sp_st, hcl]; rw [if_pos hix, if_neg e4, if_neg e5, if_neg e6, if_pos e7]
            refine vx_ret ?_
            refine W.widen (k := 1) (n := 6) (by decide) (by decide) ?_
            exact W.iret (v := (F 13 i)) hx hb hr (fun t ht hW => ⟨⟨_, (), rfl, ⟨by rw [e_S], by rw [e_S]⟩, by rw [ht]; exact hP, hD⟩, hS.F ht⟩) hS.2.2 d_T_state_91
          · by_cases e8 : y = 4
            · refine sk_as e8 ?_
              refine lv_tableIn (off := 71) (tgt := 92) hx hb d_T_state_21 (by decide) (by decide) rfl (by decide) ?_
              refine lv_aload_n hx hb d_T_state_92 rfl (lv_at hl 0 rfl) ?_
              refine va_get (D := D) (C := R_V) (T := F_V) (N := 19) hx hb htw uw_V hown hK hP (i + 3) (mv_at hi) rfl 14 (by decide) (htw _ k_T_164) (fun _ h9 => h9) rfl d_T_state_93 ?_
              subst hAe
              have e_S : sp_st (off, nm, ng, now, F, R) (nI i) y = (0, (F 14 i)) := by simp only [sp_st, hcl]; rw [if_pos hix, if_neg e4, if_neg e5, if_neg e6, if_neg e7, if_pos e8]
              refine vx_ret ?_
              refine W.widen (k := 1) (n := 6) (by decide) (by decide) ?_
              exact W.iret (v := (F 14 i)) hx hb hr (fun t ht hW => ⟨⟨_, (), rfl, ⟨by rw [e_S], by rw [e_S]⟩, by rw [ht]; exact hP, hD⟩, hS.F ht⟩) hS.2.2 d_T_state_96
            · by_cases e9 : y = 5
              · refine sk_as e9 ?_
                refine lv_tableIn (off := 76) (tgt := 97) hx hb d_T_state_21 (by decide) (by decide) rfl (by decide) ?_
                refine lv_aload_n hx hb d_T_state_97 rfl (lv_at hl 0 rfl) ?_
                refine va_get (D := D) (C := R_V) (T := F_V) (N := 19) hx hb htw uw_V hown hK hP (i + 3) (mv_at hi) rfl 15 (by decide) (htw _ k_T_167) (fun _ h9 => h9) rfl d_T_state_98 ?_
                subst hAe
                have e_S : sp_st (off, nm, ng, now, F, R) (nI i) y = (0, (F 15 i)) := by simp only [sp_st, hcl]; rw [if_pos hix, if_neg e4, if_neg e5, if_neg e6, if_neg e7, if_neg e8, if_pos e9]
                refine vx_ret ?_
                refine W.widen (k := 1) (n := 6) (by decide) (by decide) ?_
                exact W.iret (v := (F 15 i)) hx hb hr (fun t ht hW => ⟨⟨_, (), rfl, ⟨by rw [e_S], by rw [e_S]⟩, by rw [ht]; exact hP, hD⟩, hS.F ht⟩) hS.2.2 d_T_state_101
              · by_cases e10 : y = 6
                · refine sk_as e10 ?_
                  refine lv_tableIn (off := 81) (tgt := 102) hx hb d_T_state_21 (by decide) (by decide) rfl (by decide) ?_
                  refine lv_aload_n hx hb d_T_state_102 rfl (lv_at hl 0 rfl) ?_
                  refine va_get (D := D) (C := R_V) (T := F_V) (N := 19) hx hb htw uw_V hown hK hP (i + 3) (mv_at hi) rfl 16 (by decide) (htw _ k_T_170) (fun _ h9 => h9) rfl d_T_state_103 ?_
                  subst hAe
                  have e_S : sp_st (off, nm, ng, now, F, R) (nI i) y = (0, (F 16 i)) := by simp only [sp_st, hcl]; rw [if_pos hix, if_neg e4, if_neg e5, if_neg e6, if_neg e7, if_neg e8, if_neg e9, if_pos e10]
                  refine vx_ret ?_
                  refine W.widen (k := 1) (n := 6) (by decide) (by decide) ?_
                  exact W.iret (v := (F 16 i)) hx hb hr (fun t ht hW => ⟨⟨_, (), rfl, ⟨by rw [e_S], by rw [e_S]⟩, by rw [ht]; exact hP, hD⟩, hS.F ht⟩) hS.2.2 d_T_state_106
                · by_cases e11 : y = 7
                  · refine sk_as e11 ?_
                    refine lv_tableIn (off := 86) (tgt := 107) hx hb d_T_state_21 (by decide) (by decide) rfl (by decide) ?_
                    refine lv_aload_n hx hb d_T_state_107 rfl (lv_at hl 0 rfl) ?_
                    refine va_get (D := D) (C := R_V) (T := F_V) (N := 19) hx hb htw uw_V hown hK hP (i + 3) (mv_at hi) rfl 16 (by decide) (htw _ k_T_170) (fun _ h9 => h9) rfl d_T_state_108 ?_
                    refine lv_iconst (v := (-1)) hx hb d_T_state_111 (by decide) ?_
                    refine lv_icmp_ne (tgt := 119) hx hb d_T_state_112 (by decide) (fun c12 => ?_) (fun c12 => ?_)
                    · refine lv_aload_n hx hb d_T_state_119 rfl (lv_at hl 0 rfl) ?_
                      refine va_get (D := D) (C := R_V) (T := F_V) (N := 19) hx hb htw uw_V hown hK hP (i + 3) (mv_at hi) rfl 4 (by decide) (htw _ k_T_173) (fun _ h9 => h9) rfl d_T_state_120 ?_
                      refine lv_aload_n hx hb d_T_state_123 rfl (lv_at hl 0 rfl) ?_
                      refine va_get (D := D) (C := R_V) (T := F_V) (N := 19) hx hb htw uw_V hown hK hP (i + 3) (mv_at hi) rfl 16 (by decide) (htw _ k_T_170) (fun _ h9 => h9) rfl d_T_state_124 ?_
                      refine lv_isub hx hb d_T_state_127 ?_
                      subst hAe
                      have e_S : sp_st (off, nm, ng, now, F, R) (nI i) y = (0, ((F 4 i) - (F 16 i))) := by simp only [sp_st, hcl]; rw [if_pos hix, if_neg e4, if_neg e5, if_neg e6, if_neg e7, if_neg e8, if_neg e9, if_neg e10, if_pos e11, if_neg c12]
                      refine vx_ret ?_
                      refine W.widen (k := 1) (n := 6) (by decide) (by decide) ?_
                      exact W.iret (v := ((F 4 i) - (F 16 i))) hx hb hr (fun t ht hW => ⟨⟨_, (), rfl, ⟨by rw [e_S], by rw [e_S]⟩, by rw [ht]; exact hP, hD⟩, hS.F ht⟩) hS.2.2 d_T_state_128
                    · refine lv_iconst (v := (-1)) hx hb d_T_state_115 (by decide) ?_
                      refine lv_goto (tgt := 128) hx hb d_T_state_116 (by decide) ?_
                      subst hAe
                      have e_S : sp_st (off, nm, ng, now, F, R) (nI i) y = (0, (-1)) := by simp only [sp_st, hcl]; rw [if_pos hix, if_neg e4, if_neg e5, if_neg e6, if_neg e7, if_neg e8, if_neg e9, if_neg e10, if_pos e11, if_pos c12]
                      refine vx_ret ?_
                      refine W.widen (k := 1) (n := 6) (by decide) (by decide) ?_
                      exact W.iret (v := (-1)) hx hb hr (fun t ht hW => ⟨⟨_, (), rfl, ⟨by rw [e_S], by rw [e_S]⟩, by rw [ht]; exact hP, hD⟩, hS.F ht⟩) hS.2.2 d_T_state_128
                  · by_cases e13 : y = 8
                    · refine sk_as e13 ?_
                      refine lv_tableIn (off := 108) (tgt := 129) hx hb d_T_state_21 (by decide) (by decide) rfl (by decide) ?_
                      refine lv_aload_n hx hb d_T_state_129 rfl (lv_at hl 0 rfl) ?_
                      refine va_get (D := D) (C := R_V) (T := F_V) (N := 19) hx hb htw uw_V hown hK hP (i + 3) (mv_at hi) rfl 14 (by decide) (htw _ k_T_164) (fun _ h9 => h9) rfl d_T_state_130 ?_
                      refine lv_iconst (v := (-1)) hx hb d_T_state_133 (by decide) ?_
                      refine lv_icmp_eq (tgt := 152) hx hb d_T_state_134 (by decide) (fun c14 => ?_) (fun c14 => ?_)
                      · refine lv_iconst (v := 0) hx hb d_T_state_152 (by decide) ?_
                        refine cp_S (n := 1) [.int 0] hC (t_T_bit l D cM cG cI cJ 0) ⟨kc_T_bit, kn_T, k_T_179, ks_T_bit⟩ (by decide +kernel) ⟨rfl, rfl, Nat.le_of_ble_eq_true rfl, Nat.le_of_ble_eq_true rfl⟩ x_0 (yt_Y D cM cG cI cJ) hY trivial rfl hl.1 rfl (Nat.le_of_ble_eq_true rfl) d_T_state_153 ⟨Nat.le_of_ble_eq_true rfl, Nat.le_of_ble_eq_true rfl⟩ (fun r15 h16 => ?_)
                        obtain rfl : r15 = 0 := by rcases h16 with ⟨q1, q2⟩ | ⟨q1, q2⟩ <;> first | exact q1 | exact absurd rfl q2 | exact absurd q2 (by decide)
                        subst hAe
                        have e_S : sp_st (off, nm, ng, now, F, R) (nI i) y = (0, 0) := by simp only [sp_st, hcl]; rw [if_pos hix, if_neg e4, if_neg e5, if_neg e6, if_neg e7, if_neg e8, if_neg e9, if_neg e10, if_neg e11, if_pos e13, if_neg (fun q => q.1 c14)]
                        refine vx_ret ?_
                        refine W.widen (k := 1) (n := 6) (by decide) (by decide) ?_
                        exact W.iret (v := 0) hx hb hr (fun t ht hW => ⟨⟨_, (), rfl, ⟨by rw [e_S], by rw [e_S]⟩, by rw [ht]; exact hP, hD⟩, hS.F ht⟩) hS.2.2 d_T_state_156
                      · refine lv_aload_n hx hb d_T_state_137 rfl (lv_at hl 0 rfl) ?_
                        refine va_get (D := D) (C := R_V) (T := F_V) (N := 19) hx hb htw uw_V hown hK hP (i + 3) (mv_at hi) rfl 14 (by decide) (htw _ k_T_164) (fun _ h9 => h9) rfl d_T_state_138 ?_
                        refine lv_aload_n hx hb d_T_state_141 rfl (lv_at hl 0 rfl) ?_
                        refine va_get (D := D) (C := R_V) (T := F_V) (N := 19) hx hb htw uw_V hown hK hP (i + 3) (mv_at hi) rfl 3 (by decide) (htw _ k_T_176) (fun _ h9 => h9) rfl d_T_state_142 ?_
                        refine lv_icmp_eq (tgt := 152) hx hb d_T_state_145 (by decide) (fun c17 => ?_) (fun c17 => ?_)
                        · refine lv_iconst (v := 0) hx hb d_T_state_152 (by decide) ?_
                          refine cp_S (n := 1) [.int 0] hC (t_T_bit l D cM cG cI cJ 0) ⟨kc_T_bit, kn_T, k_T_179, ks_T_bit⟩ (by decide +kernel) ⟨rfl, rfl, Nat.le_of_ble_eq_true rfl, Nat.le_of_ble_eq_true rfl⟩ x_0 (yt_Y D cM cG cI cJ) hY trivial rfl hl.1 rfl (Nat.le_of_ble_eq_true rfl) d_T_state_153 ⟨Nat.le_of_ble_eq_true rfl, Nat.le_of_ble_eq_true rfl⟩ (fun r18 h19 => ?_)
                          obtain rfl : r18 = 0 := by rcases h19 with ⟨q1, q2⟩ | ⟨q1, q2⟩ <;> first | exact q1 | exact absurd rfl q2 | exact absurd q2 (by decide)
                          subst hAe
                          have e_S : sp_st (off, nm, ng, now, F, R) (nI i) y = (0, 0) := by simp only [sp_st, hcl]; rw [if_pos hix, if_neg e4, if_neg e5, if_neg e6, if_neg e7, if_neg e8, if_neg e9, if_neg e10, if_neg e11, if_pos e13, if_neg (fun q => q.2 c17)]
                          refine vx_ret ?_
                          refine W.widen (k := 1) (n := 6) (by decide) (by decide) ?_
                          exact W.iret (v := 0) hx hb hr (fun t ht hW => ⟨⟨_, (), rfl, ⟨by rw [e_S], by rw [e_S]⟩, by rw [ht]; exact hP, hD⟩, hS.F ht⟩) hS.2.2 d_T_state_156
                        · refine lv_iconst (v := 1) hx hb d_T_state_148 (by decide) ?_
                          refine lv_goto (tgt := 153) hx hb d_T_state_149 (by decide) ?_
                          refine cp_S (n := 1) [.int 1] hC (t_T_bit l D cM cG cI cJ 1) ⟨kc_T_bit, kn_T, k_T_179, ks_T_bit⟩ (by decide +kernel) ⟨rfl, rfl, Nat.le_of_ble_eq_true rfl, Nat.le_of_ble_eq_true rfl⟩ x_0 (yt_Y D cM cG cI cJ) hY trivial rfl hl.1 rfl (Nat.le_of_ble_eq_true rfl) d_T_state_153 ⟨Nat.le_of_ble_eq_true rfl, Nat.le_of_ble_eq_true rfl⟩ (fun r20 h21 => ?_)
                          obtain rfl : r20 = 1 := by rcases h21 with ⟨q1, q2⟩ | ⟨q1, q2⟩ <;> first | exact q1 | exact absurd rfl q2 | exact absurd q2 (by decide)
                          subst hAe
                          have e_S : sp_st (off, nm, ng, now, F, R) (nI i) y = (0, 1) := by simp only [sp_st, hcl]; rw [if_pos hix, if_neg e4, if_neg e5, if_neg e6, if_neg e7, if_neg e8, if_neg e9, if_neg e10, if_neg e11, if_pos e13, if_pos ⟨c14, c17⟩]
                          refine vx_ret ?_
                          refine W.widen (k := 1) (n := 6) (by decide) (by decide) ?_
                          exact W.iret (v := 1) hx hb hr (fun t ht hW => ⟨⟨_, (), rfl, ⟨by rw [e_S], by rw [e_S]⟩, by rw [ht]; exact hP, hD⟩, hS.F ht⟩) hS.2.2 d_T_state_156
                    · refine lv_tableOut (tgt := 157) hx hb d_T_state_21 (by have := ne_I (n := 0) e4; have := ne_I (n := 1) e5; have := ne_I (n := 2) e6; have := ne_I (n := 3) e7; have := ne_I (n := 4) e8; have := ne_I (n := 5) e9; have := ne_I (n := 6) e10; have := ne_I (n := 7) e11; have := ne_I (n := 8) e13; omega) (by decide) ?_
                      obtain ⟨sa9, hsa9⟩ := hY.2.2.2.1 (183, "no such what") (by decide)
                      have e_S : sp_st (off, nm, ng, now, F, R) (nI i) y = (1, 0) := by simp only [sp_st, hcl]; rw [if_pos hix, if_neg e4, if_neg e5, if_neg e6, if_neg e7, if_neg e8, if_neg e9, if_neg e10, if_neg e11, if_neg e13]
                      exact vx_throwS (A := A) hx hb hl0 hown (by decide +kernel) (by decide +kernel) (htw _ k_T_158) (htw _ kn_IndexOutOfBoundsException) hsa9 (at_IndexOutOfBoundsException htw hY) ag_IndexOutOfBoundsException hXs.1 hXs.2 hS (hl.1.trans hml.symm) d_T_state_157 d_T_state_160 d_T_state_161 d_T_state_163 d_T_state_166 (fun x hx9 => (hne x hx9).elim) (Nat.le_of_ble_eq_true rfl) (Nat.le_of_ble_eq_true rfl) (Nat.le_of_ble_eq_true rfl) (Nat.le_of_ble_eq_true rfl) hlocks (fun t ht1 ht2 ht3 => ⟨(), trivial, ⟨rfl, by rw [e_S]⟩, ht2, fun q h1 _ => ht3 q h1⟩) (fun z hz => nomatch hz) (Nat.le_of_ble_eq_true rfl) (Nat.le_of_ble_eq_true rfl)
  · refine W.eq (g2 := F0 m 5 ls (.null :: [])) rfl ?_
    refine lv_astore_nN (lv' := [(3, .null), (0, .ref o), (1, .int x), (2, .int y)]) hx hb d_T_state_5 rfl hl (by decide) rfl (fun ls hl => ?_)
    refine lv_aload_nN hx hb d_T_state_6 rfl (lv_at hl 0 rfl) ?_
    refine lv_ifnonnullN hx hb d_T_state_7 ?_
    obtain ⟨sa9, hsa9⟩ := hY.2.2.2.1 (150, "no such movement") (by decide)
    have e_S : sp_st (off, nm, ng, now, F, R) x y = (1, 0) := by simp only [sp_st]; rw [if_neg n3]
    exact vx_throwS (A := A) hx hb hl0 hown (by decide +kernel) (by decide +kernel) (htw _ k_T_158) (htw _ kn_IndexOutOfBoundsException) hsa9 (at_IndexOutOfBoundsException htw hY) ag_IndexOutOfBoundsException hXs.1 hXs.2 hS (hl.1.trans hml.symm) d_T_state_10 d_T_state_13 d_T_state_14 d_T_state_16 d_T_state_19 (fun x hx9 => (hne x hx9).elim) (Nat.le_of_ble_eq_true rfl) (Nat.le_of_ble_eq_true rfl) (Nat.le_of_ble_eq_true rfl) (Nat.le_of_ble_eq_true rfl) hlocks (fun t ht1 ht2 ht3 => ⟨(), trivial, ⟨rfl, by rw [e_S]⟩, ht2, fun q h1 _ => ht3 q h1⟩) (fun z hz => nomatch hz) (Nat.le_of_ble_eq_true rfl) (Nat.le_of_ble_eq_true rfl)
set_option maxHeartbeats 4000000 in
set_option maxRecDepth 100000 in
theorem t_T_message (l : Launch) (D : va_G) (cM cG cI cJ : ClassId) (o am ag : Nat) (pm pg : Nat → Nat) (off : Int32) (nm ng : Nat) (now : Int32) (F : Nat → Nat → Int32) (R : Nat → Int32) (sz : Nat) (x : Int32) (y : Int32) (hl0 : l.stackTraces = false) (t9 : Nat) (hI : iv_S t9 (off, nm, ng, now, F, R)) : vx_Met l y_T_message (Cond.code y_T_message c_T_message 4 (some .int) :: tw_L) ({ frames := 6, cells := 1, slots := 6, locals := 82 } : Room) (mu_P D (ws_C cM cG o am ag pm pg (off, nm, ng, now, F, R)) sz (sx_P (va_A (ws_C cM cG o am ag pm pg (off, nm, ng, now, F, R)) sz)) (yt_P D cM cG cI cJ) [.ref o, .int x, .int y]) (va_Qi (fun (r : Int32) (_ : Unit) => (sp_me (off, nm, ng, now, F, R) x y).1 = 0 ∧ r = (sp_me (off, nm, ng, now, F, R) x y).2) (mu_B D (ws_C cM cG o am ag pm pg (off, nm, ng, now, F, R)) sz (fun _ => (ws_C cM cG o am ag pm pg (off, nm, ng, now, F, R)))) (va_A (ws_C cM cG o am ag pm pg (off, nm, ng, now, F, R)) sz)) (vx_X (fun _ : Unit => True) (fun E _ _ => E = "java/lang/IndexOutOfBoundsException" ∧ (sp_me (off, nm, ng, now, F, R) x y).1 = 1) (fun q => sz ≤ q)) 1 6 (va_A (ws_C cM cG o am ag pm pg (off, nm, ng, now, F, R)) sz) := by
  refine vx_ofW (cc := c_T_message) (maxL := 4) (ret := (some .int)) (by decide) rfl ?_
  intro p e s m args below meth c s₁ B hml hne hv
  obtain ⟨rfl, hsz, hP, hD0, hX, hY⟩ := hv
  have hx := B.exec
  have hb := B.bytes
  have hr := B.returns
  have htw : ∀ w ∈ tw_L, w.before _ s = true := fun w hw => atoms_spec (ws := (Cond.code y_T_message c_T_message 4 (some .int) :: tw_L)) B.pre w (List.mem_cons_of_mem _ hw)
  have hown : s.vm.findClass R_T = some m.cls := findClass_of_methodNamed B.named
  have hlocks := B.notSynchronized
  have hC : CallFix p m c c_T_message 4 s _ tw_L R_T := ⟨hx, hb, hml, hown, htw⟩
  have hK := hY.1
  have hl := lv_entry ([.ref o, .int x, .int y]) (n := 4) (Nat.le_of_ble_eq_true rfl)
  rw [lg_entry_eq]
  generalize (lg_sl ([.ref o, .int x, .int y]) ++ List.replicate (4 - (lg_sl ([.ref o, .int x, .int y])).length) Slot.unset).toArray = ls at hl ⊢
  have hl : lv_has ls 4 [(0, .ref o), (1, .int x), (2, .int y)] := hl
  subst hsz
  obtain ⟨A, hAe⟩ : ∃ A : Nat → Prop, A = va_A (ws_C cM cG o am ag pm pg (off, nm, ng, now, F, R)) s.heap.size := ⟨_, rfl⟩
  have hD : va_D A (ws_C cM cG o am ag pm pg (off, nm, ng, now, F, R)) := by rw [hAe]; exact hD0.self
  have hA : ∀ q : Nat, s.heap.size ≤ q → A q := fun q h => by rw [hAe]; exact Or.inr h
  have hS : va_S A s.heap s.heap [] := va_S.rf
  have hXs : sx_P A s s.heap := by rw [hAe]; exact hX
  obtain ⟨hof, hn20, hnow, ht4, hM, hZ, hG, hcn⟩ := id hI
  have hg200 : ng ≤ 200 := by have := cn_0 hM hcn; omega
  refine lv_aload_n hx hb d_T_message_0 rfl (lv_at hl 0 rfl) ?_
  refine lv_iload_n hx hb d_T_message_1 rfl (lv_at hl 1 rfl) ?_
  refine cp_Q (n := 1) [.int x] hC (t_T_findMessage l D cM cG cI cJ o am ag pm pg off nm ng now F R x hg200) ⟨kc_T_findMessage, kn_T, k_T_113, ki_T_findMessage, kv_T_findMessage⟩ (by decide +kernel) ⟨rfl, rfl, Nat.le_of_ble_eq_true rfl, Nat.le_of_ble_eq_true rfl⟩ x_0 (yt_Y D cM cG cI cJ) hY hP (va_recv hK hP (ci := 0) (q0 := 0) rfl rfl) rfl hl.1 rfl (Nat.le_of_ble_eq_true rfl) d_T_message_2 ⟨Nat.le_of_ble_eq_true rfl, Nat.le_of_ble_eq_true rfl⟩ (fun r1 h2 => ?_)
  rcases h2 with ⟨j, hj, rfl, rfl⟩ | ⟨rfl, n3⟩
  · refine W.eq (g2 := F0 m 5 ls (.ref (pg j) :: [])) rfl ?_
    have hclj : (nI j).toNatClampNeg = j := nI_clamp (by omega)
    have hixj : is_ix ng (nI j) := ix_nI (by omega) hj
    refine lv_astore_n (lv' := [(3, .ref (pg j)), (0, .ref o), (1, .int (nI j)), (2, .int y)]) hx hb d_T_message_5 rfl hl (by decide) rfl (fun ls hl => ?_)
    refine lv_aload_n hx hb d_T_message_6 rfl (lv_at hl 0 rfl) ?_
    refine lv_ifnonnull (tgt := 20) hx hb d_T_message_7 (by decide) ?_
    refine lv_iload_n hx hb d_T_message_20 rfl (lv_at hl 3 rfl) ?_
    by_cases e4 : y = 0
    · refine sk_as e4 ?_
      refine lv_tableIn (off := 43) (tgt := 64) hx hb d_T_message_21 (by decide) (by decide) rfl (by decide) ?_
      refine lv_aload_n hx hb d_T_message_64 rfl (lv_at hl 0 rfl) ?_
      refine va_get (D := D) (C := R_G) (T := F_G) (N := 7) hx hb htw uw_G hown hK hP (nm + j + 3) (ms_at hj) rfl 0 (by decide) (htw _ k_T_195) (fun _ h9 => h9) rfl d_T_message_65 ?_
      subst hAe
      have e_S : sp_me (off, nm, ng, now, F, R) (nI j) y = (0, (R (7 * j))) := by simp only [sp_me, hclj]; rw [e4, if_pos ⟨hixj, by decide, by decide⟩]; rfl
      refine vx_ret ?_
      refine W.widen (k := 1) (n := 6) (by decide) (by decide) ?_
      exact W.iret (v := (R (7 * j))) hx hb hr (fun t ht hW => ⟨⟨_, (), rfl, ⟨by rw [e_S], by rw [e_S]⟩, by rw [ht]; exact hP, hD⟩, hS.F ht⟩) hS.2.2 d_T_message_68
    · by_cases e5 : y = 1
      · refine sk_as e5 ?_
        refine lv_tableIn (off := 48) (tgt := 69) hx hb d_T_message_21 (by decide) (by decide) rfl (by decide) ?_
        refine lv_aload_n hx hb d_T_message_69 rfl (lv_at hl 0 rfl) ?_
        refine va_get (D := D) (C := R_G) (T := F_G) (N := 7) hx hb htw uw_G hown hK hP (nm + j + 3) (ms_at hj) rfl 1 (by decide) (htw _ k_T_125) (fun _ h9 => h9) rfl d_T_message_70 ?_
        subst hAe
        have e_S : sp_me (off, nm, ng, now, F, R) (nI j) y = (0, (R (7 * j + 1))) := by simp only [sp_me, hclj]; rw [e5, if_pos ⟨hixj, by decide, by decide⟩]; rfl
        refine vx_ret ?_
        refine W.widen (k := 1) (n := 6) (by decide) (by decide) ?_
        exact W.iret (v := (R (7 * j + 1))) hx hb hr (fun t ht hW => ⟨⟨_, (), rfl, ⟨by rw [e_S], by rw [e_S]⟩, by rw [ht]; exact hP, hD⟩, hS.F ht⟩) hS.2.2 d_T_message_73
      · by_cases e6 : y = 2
        · refine sk_as e6 ?_
          refine lv_tableIn (off := 53) (tgt := 74) hx hb d_T_message_21 (by decide) (by decide) rfl (by decide) ?_
          refine lv_aload_n hx hb d_T_message_74 rfl (lv_at hl 0 rfl) ?_
          refine va_get (D := D) (C := R_G) (T := F_G) (N := 7) hx hb htw uw_G hown hK hP (nm + j + 3) (ms_at hj) rfl 2 (by decide) (htw _ k_T_198) (fun _ h9 => h9) rfl d_T_message_75 ?_
          subst hAe
          have e_S : sp_me (off, nm, ng, now, F, R) (nI j) y = (0, (R (7 * j + 2))) := by simp only [sp_me, hclj]; rw [e6, if_pos ⟨hixj, by decide, by decide⟩]; rfl
          refine vx_ret ?_
          refine W.widen (k := 1) (n := 6) (by decide) (by decide) ?_
          exact W.iret (v := (R (7 * j + 2))) hx hb hr (fun t ht hW => ⟨⟨_, (), rfl, ⟨by rw [e_S], by rw [e_S]⟩, by rw [ht]; exact hP, hD⟩, hS.F ht⟩) hS.2.2 d_T_message_78
        · by_cases e7 : y = 3
          · refine sk_as e7 ?_
            refine lv_tableIn (off := 58) (tgt := 79) hx hb d_T_message_21 (by decide) (by decide) rfl (by decide) ?_
            refine lv_aload_n hx hb d_T_message_79 rfl (lv_at hl 0 rfl) ?_
            refine va_get (D := D) (C := R_G) (T := F_G) (N := 7) hx hb htw uw_G hown hK hP (nm + j + 3) (ms_at hj) rfl 3 (by decide) (htw _ k_T_122) (fun _ h9 => h9) rfl d_T_message_80 ?_
            subst hAe
            have e_S : sp_me (off, nm, ng, now, F, R) (nI j) y = (0, (R (7 * j + 3))) := by simp only [sp_me, hclj]; rw [e7, if_pos ⟨hixj, by decide, by decide⟩]; rfl
            refine vx_ret ?_
            refine W.widen (k := 1) (n := 6) (by decide) (by decide) ?_
            exact W.iret (v := (R (7 * j + 3))) hx hb hr (fun t ht hW => ⟨⟨_, (), rfl, ⟨by rw [e_S], by rw [e_S]⟩, by rw [ht]; exact hP, hD⟩, hS.F ht⟩) hS.2.2 d_T_message_83
          · by_cases e8 : y = 4
            · refine sk_as e8 ?_
              refine lv_tableIn (off := 63) (tgt := 84) hx hb d_T_message_21 (by decide) (by decide) rfl (by decide) ?_
              refine lv_aload_n hx hb d_T_message_84 rfl (lv_at hl 0 rfl) ?_
              refine va_get (D := D) (C := R_G) (T := F_G) (N := 7) hx hb htw uw_G hown hK hP (nm + j + 3) (ms_at hj) rfl 4 (by decide) (htw _ k_T_201) (fun _ h9 => h9) rfl d_T_message_85 ?_
              subst hAe
              have e_S : sp_me (off, nm, ng, now, F, R) (nI j) y = (0, (R (7 * j + 4))) := by simp only [sp_me, hclj]; rw [e8, if_pos ⟨hixj, by decide, by decide⟩]; rfl
              refine vx_ret ?_
              refine W.widen (k := 1) (n := 6) (by decide) (by decide) ?_
              exact W.iret (v := (R (7 * j + 4))) hx hb hr (fun t ht hW => ⟨⟨_, (), rfl, ⟨by rw [e_S], by rw [e_S]⟩, by rw [ht]; exact hP, hD⟩, hS.F ht⟩) hS.2.2 d_T_message_88
            · by_cases e9 : y = 5
              · refine sk_as e9 ?_
                refine lv_tableIn (off := 68) (tgt := 89) hx hb d_T_message_21 (by decide) (by decide) rfl (by decide) ?_
                refine lv_aload_n hx hb d_T_message_89 rfl (lv_at hl 0 rfl) ?_
                refine va_get (D := D) (C := R_G) (T := F_G) (N := 7) hx hb htw uw_G hown hK hP (nm + j + 3) (ms_at hj) rfl 5 (by decide) (htw _ k_T_204) (fun _ h9 => h9) rfl d_T_message_90 ?_
                subst hAe
                have e_S : sp_me (off, nm, ng, now, F, R) (nI j) y = (0, (R (7 * j + 5))) := by simp only [sp_me, hclj]; rw [e9, if_pos ⟨hixj, by decide, by decide⟩]; rfl
                refine vx_ret ?_
                refine W.widen (k := 1) (n := 6) (by decide) (by decide) ?_
                exact W.iret (v := (R (7 * j + 5))) hx hb hr (fun t ht hW => ⟨⟨_, (), rfl, ⟨by rw [e_S], by rw [e_S]⟩, by rw [ht]; exact hP, hD⟩, hS.F ht⟩) hS.2.2 d_T_message_93
              · by_cases e10 : y = 6
                · refine sk_as e10 ?_
                  refine lv_tableIn (off := 73) (tgt := 94) hx hb d_T_message_21 (by decide) (by decide) rfl (by decide) ?_
                  refine lv_aload_n hx hb d_T_message_94 rfl (lv_at hl 0 rfl) ?_
                  refine va_get (D := D) (C := R_G) (T := F_G) (N := 7) hx hb htw uw_G hown hK hP (nm + j + 3) (ms_at hj) rfl 6 (by decide) (htw _ k_T_119) (fun _ h9 => h9) rfl d_T_message_95 ?_
                  subst hAe
                  have e_S : sp_me (off, nm, ng, now, F, R) (nI j) y = (0, (R (7 * j + 6))) := by simp only [sp_me, hclj]; rw [e10, if_pos ⟨hixj, by decide, by decide⟩]; rfl
                  refine vx_ret ?_
                  refine W.widen (k := 1) (n := 6) (by decide) (by decide) ?_
                  exact W.iret (v := (R (7 * j + 6))) hx hb hr (fun t ht hW => ⟨⟨_, (), rfl, ⟨by rw [e_S], by rw [e_S]⟩, by rw [ht]; exact hP, hD⟩, hS.F ht⟩) hS.2.2 d_T_message_98
                · refine lv_tableOut (tgt := 99) hx hb d_T_message_21 (by have := ne_I (n := 0) e4; have := ne_I (n := 1) e5; have := ne_I (n := 2) e6; have := ne_I (n := 3) e7; have := ne_I (n := 4) e8; have := ne_I (n := 5) e9; have := ne_I (n := 6) e10; omega) (by decide) ?_
                  obtain ⟨sa9, hsa9⟩ := hY.2.2.2.1 (183, "no such what") (by decide)
                  have e_S : sp_me (off, nm, ng, now, F, R) (nI j) y = (1, 0) := by simp only [sp_me]; rw [if_neg (fun q => wi_6 e4 e5 e6 e7 e8 e9 e10 q.2)]
                  exact vx_throwS (A := A) hx hb hl0 hown (by decide +kernel) (by decide +kernel) (htw _ k_T_158) (htw _ kn_IndexOutOfBoundsException) hsa9 (at_IndexOutOfBoundsException htw hY) ag_IndexOutOfBoundsException hXs.1 hXs.2 hS (hl.1.trans hml.symm) d_T_message_99 d_T_message_102 d_T_message_103 d_T_message_105 d_T_message_108 (fun x hx9 => (hne x hx9).elim) (Nat.le_of_ble_eq_true rfl) (Nat.le_of_ble_eq_true rfl) (Nat.le_of_ble_eq_true rfl) (Nat.le_of_ble_eq_true rfl) hlocks (fun t ht1 ht2 ht3 => ⟨(), trivial, ⟨rfl, by rw [e_S]⟩, ht2, fun q h1 _ => ht3 q h1⟩) (fun z hz => nomatch hz) (Nat.le_of_ble_eq_true rfl) (Nat.le_of_ble_eq_true rfl)
  · refine W.eq (g2 := F0 m 5 ls (.null :: [])) rfl ?_
    refine lv_astore_nN (lv' := [(3, .null), (0, .ref o), (1, .int x), (2, .int y)]) hx hb d_T_message_5 rfl hl (by decide) rfl (fun ls hl => ?_)
    refine lv_aload_nN hx hb d_T_message_6 rfl (lv_at hl 0 rfl) ?_
    refine lv_ifnonnullN hx hb d_T_message_7 ?_
    obtain ⟨sa9, hsa9⟩ := hY.2.2.2.1 (193, "no such message") (by decide)
    have e_S : sp_me (off, nm, ng, now, F, R) x y = (1, 0) := by simp only [sp_me]; rw [if_neg (fun q => n3 q.1)]
    exact vx_throwS (A := A) hx hb hl0 hown (by decide +kernel) (by decide +kernel) (htw _ k_T_158) (htw _ kn_IndexOutOfBoundsException) hsa9 (at_IndexOutOfBoundsException htw hY) ag_IndexOutOfBoundsException hXs.1 hXs.2 hS (hl.1.trans hml.symm) d_T_message_10 d_T_message_13 d_T_message_14 d_T_message_16 d_T_message_19 (fun x hx9 => (hne x hx9).elim) (Nat.le_of_ble_eq_true rfl) (Nat.le_of_ble_eq_true rfl) (Nat.le_of_ble_eq_true rfl) (Nat.le_of_ble_eq_true rfl) hlocks (fun t ht1 ht2 ht3 => ⟨(), trivial, ⟨rfl, by rw [e_S]⟩, ht2, fun q h1 _ => ht3 q h1⟩) (fun z hz => nomatch hz) (Nat.le_of_ble_eq_true rfl) (Nat.le_of_ble_eq_true rfl)
set_option maxHeartbeats 4000000 in
set_option maxRecDepth 100000 in
theorem t_T_office (l : Launch) (D : va_G) (cM cG cI cJ : ClassId) (o am ag : Nat) (pm pg : Nat → Nat) (off : Int32) (nm ng : Nat) (now : Int32) (F : Nat → Nat → Int32) (R : Nat → Int32) (sz : Nat) (x : Int32) (y : Int32) (hl0 : l.stackTraces = false) (t9 : Nat) (hI : iv_S t9 (off, nm, ng, now, F, R)) : vx_Met l y_T_office (Cond.code y_T_office c_T_office 6 (some .int) :: tw_L) ({ frames := 6, cells := 1, slots := 6, locals := 82 } : Room) (mu_P D (ws_C cM cG o am ag pm pg (off, nm, ng, now, F, R)) sz (sx_P (va_A (ws_C cM cG o am ag pm pg (off, nm, ng, now, F, R)) sz)) (yt_P D cM cG cI cJ) [.ref o, .int x, .int y]) (va_Qi (fun (r : Int32) (_ : Unit) => (sp_of (off, nm, ng, now, F, R) x y).1 = 0 ∧ r = (sp_of (off, nm, ng, now, F, R) x y).2) (mu_B D (ws_C cM cG o am ag pm pg (off, nm, ng, now, F, R)) sz (fun _ => (ws_C cM cG o am ag pm pg (off, nm, ng, now, F, R)))) (va_A (ws_C cM cG o am ag pm pg (off, nm, ng, now, F, R)) sz)) (vx_X (fun _ : Unit => True) (fun E _ _ => E = "java/lang/IndexOutOfBoundsException" ∧ (sp_of (off, nm, ng, now, F, R) x y).1 = 1) (fun q => sz ≤ q)) 1 6 (va_A (ws_C cM cG o am ag pm pg (off, nm, ng, now, F, R)) sz) := by
  refine vx_ofW (cc := c_T_office) (maxL := 6) (ret := (some .int)) (by decide) rfl ?_
  intro p e s m args below meth c s₁ B hml hne hv
  obtain ⟨rfl, hsz, hP, hD0, hX, hY⟩ := hv
  have hx := B.exec
  have hb := B.bytes
  have hr := B.returns
  have htw : ∀ w ∈ tw_L, w.before _ s = true := fun w hw => atoms_spec (ws := (Cond.code y_T_office c_T_office 6 (some .int) :: tw_L)) B.pre w (List.mem_cons_of_mem _ hw)
  have hown : s.vm.findClass R_T = some m.cls := findClass_of_methodNamed B.named
  have hlocks := B.notSynchronized
  have hC : CallFix p m c c_T_office 6 s _ tw_L R_T := ⟨hx, hb, hml, hown, htw⟩
  have hK := hY.1
  have hl := lv_entry ([.ref o, .int x, .int y]) (n := 6) (Nat.le_of_ble_eq_true rfl)
  rw [lg_entry_eq]
  generalize (lg_sl ([.ref o, .int x, .int y]) ++ List.replicate (6 - (lg_sl ([.ref o, .int x, .int y])).length) Slot.unset).toArray = ls at hl ⊢
  have hl : lv_has ls 6 [(0, .ref o), (1, .int x), (2, .int y)] := hl
  subst hsz
  obtain ⟨A, hAe⟩ : ∃ A : Nat → Prop, A = va_A (ws_C cM cG o am ag pm pg (off, nm, ng, now, F, R)) s.heap.size := ⟨_, rfl⟩
  have hD : va_D A (ws_C cM cG o am ag pm pg (off, nm, ng, now, F, R)) := by rw [hAe]; exact hD0.self
  have hA : ∀ q : Nat, s.heap.size ≤ q → A q := fun q h => by rw [hAe]; exact Or.inr h
  have hS : va_S A s.heap s.heap [] := va_S.rf
  have hXs : sx_P A s s.heap := by rw [hAe]; exact hX
  obtain ⟨hof, hn20, hnow, ht4, hM, hZ, hG, hcn⟩ := id hI
  have hg200 : ng ≤ 200 := by have := cn_0 hM hcn; omega
  refine lv_aload_n hx hb d_T_office_0 rfl (lv_at hl 0 rfl) ?_
  refine lv_iload_n hx hb d_T_office_1 rfl (lv_at hl 1 rfl) ?_
  refine cp_Q (n := 1) [.int x] hC (t_T_findMovement l D cM cG cI cJ o am ag pm pg off nm ng now F R x hn20) ⟨kc_T_findMovement, kn_T, k_T_66, ki_T_findMovement, kv_T_findMovement⟩ (by decide +kernel) ⟨rfl, rfl, Nat.le_of_ble_eq_true rfl, Nat.le_of_ble_eq_true rfl⟩ x_0 (yt_Y D cM cG cI cJ) hY hP (va_recv hK hP (ci := 0) (q0 := 0) rfl rfl) rfl hl.1 rfl (Nat.le_of_ble_eq_true rfl) d_T_office_2 ⟨Nat.le_of_ble_eq_true rfl, Nat.le_of_ble_eq_true rfl⟩ (fun r1 h2 => ?_)
  rcases h2 with ⟨i, hi, rfl, rfl⟩ | ⟨rfl, n3⟩
  · refine W.eq (g2 := F0 m 5 ls (.ref (pm i) :: [])) rfl ?_
    have hcl : (nI i).toNatClampNeg = i := nI_clamp (by omega)
    have hix : is_ix nm (nI i) := ix_nI (by omega) hi
    have hMi := hM i hi
    refine lv_astore_n (lv' := [(3, .ref (pm i)), (0, .ref o), (1, .int (nI i)), (2, .int y)]) hx hb d_T_office_5 rfl hl (by decide) rfl (fun ls hl => ?_)
    refine lv_aload_n hx hb d_T_office_6 rfl (lv_at hl 0 rfl) ?_
    refine lv_ifnull hx hb d_T_office_7 ?_
    refine lv_aload_n hx hb d_T_office_10 rfl (lv_at hl 1 rfl) ?_
    refine lv_iload_n hx hb d_T_office_11 rfl (lv_at hl 3 rfl) ?_
    refine cp_V (n := 1) [.int y] hC (t_T_isOffice l D cM cG cI cJ o am ag pm pg off nm ng now F R y) ⟨kc_T_isOffice, kn_T, k_T_34, ki_T_isOffice, kv_T_isOffice⟩ (by decide +kernel) ⟨rfl, rfl, Nat.le_of_ble_eq_true rfl, Nat.le_of_ble_eq_true rfl⟩ x_0 (yt_Y D cM cG cI cJ) hY hP (va_recv hK hP (ci := 0) (q0 := 0) rfl rfl) rfl hl.1 rfl (Nat.le_of_ble_eq_true rfl) d_T_office_12 ⟨Nat.le_of_ble_eq_true rfl, Nat.le_of_ble_eq_true rfl⟩ (fun r4 h5 => ?_)
    rcases h5 with ⟨rfl, b6⟩ | ⟨rfl, b6⟩
    · refine lv_if_ne (tgt := 28) hx hb d_T_office_15 (by decide) (fun _ => ?_) (fun q9 => absurd q9 (by decide))
      refine lv_iload_n hx hb d_T_office_28 rfl (lv_at hl 3 rfl) ?_
      refine lv_aload_n hx hb d_T_office_29 rfl (lv_at hl 0 rfl) ?_
      refine va_get (D := D) (C := R_V) (T := F_V) (N := 19) hx hb htw uw_V hown hK hP (i + 3) (mv_at hi) rfl 1 (by decide) (htw _ k_T_99) (fun _ h9 => h9) rfl d_T_office_30 ?_
      refine lv_icmp_ne (tgt := 40) hx hb d_T_office_33 (by decide) (fun c7 => ?_) (fun c7 => ?_)
      · refine lv_iconst (v := 0) hx hb d_T_office_40 (by decide) ?_
        refine lv_istore (lv' := [(4, .int 0), (3, .ref (pm i)), (0, .ref o), (1, .int (nI i)), (2, .int y)]) hx hb d_T_office_41 hl (by decide) rfl (fun ls hl => ?_)
        refine lv_iload_n hx hb d_T_office_43 rfl (lv_at hl 4 rfl) ?_
        refine lv_aload_n hx hb d_T_office_44 rfl (lv_at hl 1 rfl) ?_
        refine va_get (D := D) (C := R_V) (T := F_V) (N := 19) hx hb htw uw_V hown hK hP (i + 3) (mv_at hi) rfl 6 (by decide) (htw _ k_T_82) (fun _ h9 => h9) rfl d_T_office_45 ?_
        refine lv_icmp_ne (tgt := 55) hx hb d_T_office_48 (by decide) (fun c8 => ?_) (fun c8 => ?_)
        · refine lv_iconst (v := 0) hx hb d_T_office_55 (by decide) ?_
          refine lv_istore (lv' := [(5, .int 0), (4, .int 0), (3, .ref (pm i)), (0, .ref o), (1, .int (nI i)), (2, .int y)]) hx hb d_T_office_56 hl (by decide) rfl (fun ls hl => ?_)
          refine lv_iload_n hx hb d_T_office_58 rfl (lv_at hl 5 rfl) ?_
          refine lv_aload_n hx hb d_T_office_59 rfl (lv_at hl 2 rfl) ?_
          refine va_get (D := D) (C := R_V) (T := F_V) (N := 19) hx hb htw uw_V hown hK hP (i + 3) (mv_at hi) rfl 0 (by decide) (htw _ k_T_76) (fun _ h9 => h9) rfl d_T_office_60 ?_
          refine lv_icmp_ne (tgt := 70) hx hb d_T_office_63 (by decide) (fun c9 => ?_) (fun c9 => ?_)
          · refine lv_iconst (v := 0) hx hb d_T_office_70 (by decide) ?_
            refine cp_S (n := 1) [.int 0] hC (t_T_bit l D cM cG cI cJ 0) ⟨kc_T_bit, kn_T, k_T_179, ks_T_bit⟩ (by decide +kernel) ⟨rfl, rfl, Nat.le_of_ble_eq_true rfl, Nat.le_of_ble_eq_true rfl⟩ x_0 (yt_Y D cM cG cI cJ) hY trivial rfl hl.1 rfl (Nat.le_of_ble_eq_true rfl) d_T_office_71 ⟨Nat.le_of_ble_eq_true rfl, Nat.le_of_ble_eq_true rfl⟩ (fun r10 h11 => ?_)
            obtain rfl : r10 = 0 := by rcases h11 with ⟨q1, q2⟩ | ⟨q1, q2⟩ <;> first | exact q1 | exact absurd rfl q2 | exact absurd q2 (by decide)
            refine lv_iconst (v := 2) hx hb d_T_office_74 (by decide) ?_
            refine lv_iload hx hb d_T_office_75 (lv_at hl 1 rfl) ?_
            refine lv_if_eq (tgt := 91) hx hb d_T_office_77 (by decide) (fun _ => ?_) (fun q9 => absurd rfl q9)
            refine lv_iconst (v := 0) hx hb d_T_office_91 (by decide) ?_
            refine cp_S (n := 1) [.int 0] hC (t_T_bit l D cM cG cI cJ 0) ⟨kc_T_bit, kn_T, k_T_179, ks_T_bit⟩ (by decide +kernel) ⟨rfl, rfl, Nat.le_of_ble_eq_true rfl, Nat.le_of_ble_eq_true rfl⟩ x_0 (yt_Y D cM cG cI cJ) hY trivial rfl hl.1 rfl (Nat.le_of_ble_eq_true rfl) d_T_office_92 ⟨Nat.le_of_ble_eq_true rfl, Nat.le_of_ble_eq_true rfl⟩ (fun r12 h13 => ?_)
            obtain rfl : r12 = 0 := by rcases h13 with ⟨q1, q2⟩ | ⟨q1, q2⟩ <;> first | exact q1 | exact absurd rfl q2 | exact absurd q2 (by decide)
            refine lv_imul hx hb d_T_office_95 ?_
            refine lv_iadd hx hb d_T_office_96 ?_
            refine lv_iconst (v := 4) hx hb d_T_office_97 (by decide) ?_
            refine lv_iload hx hb d_T_office_98 (lv_at hl 1 rfl) ?_
            refine lv_if_eq (tgt := 114) hx hb d_T_office_100 (by decide) (fun _ => ?_) (fun q9 => absurd rfl q9)
            refine lv_iconst (v := 0) hx hb d_T_office_114 (by decide) ?_
            refine cp_S (n := 1) [.int 0] hC (t_T_bit l D cM cG cI cJ 0) ⟨kc_T_bit, kn_T, k_T_179, ks_T_bit⟩ (by decide +kernel) ⟨rfl, rfl, Nat.le_of_ble_eq_true rfl, Nat.le_of_ble_eq_true rfl⟩ x_0 (yt_Y D cM cG cI cJ) hY trivial rfl hl.1 rfl (Nat.le_of_ble_eq_true rfl) d_T_office_115 ⟨Nat.le_of_ble_eq_true rfl, Nat.le_of_ble_eq_true rfl⟩ (fun r14 h15 => ?_)
            obtain rfl : r14 = 0 := by rcases h15 with ⟨q1, q2⟩ | ⟨q1, q2⟩ <;> first | exact q1 | exact absurd rfl q2 | exact absurd q2 (by decide)
            refine lv_imul hx hb d_T_office_118 ?_
            refine lv_iadd hx hb d_T_office_119 ?_
            refine lv_bipush (v := 8) hx hb d_T_office_120 (by decide) ?_
            refine lv_iload hx hb d_T_office_122 (lv_at hl 0 rfl) ?_
            refine cp_S (n := 1) [.int 0] hC (t_T_bit l D cM cG cI cJ 0) ⟨kc_T_bit, kn_T, k_T_179, ks_T_bit⟩ (by decide +kernel) ⟨rfl, rfl, Nat.le_of_ble_eq_true rfl, Nat.le_of_ble_eq_true rfl⟩ x_0 (yt_Y D cM cG cI cJ) hY trivial rfl hl.1 rfl (Nat.le_of_ble_eq_true rfl) d_T_office_124 ⟨Nat.le_of_ble_eq_true rfl, Nat.le_of_ble_eq_true rfl⟩ (fun r16 h17 => ?_)
            obtain rfl : r16 = 0 := by rcases h17 with ⟨q1, q2⟩ | ⟨q1, q2⟩ <;> first | exact q1 | exact absurd rfl q2 | exact absurd q2 (by decide)
            refine lv_imul hx hb d_T_office_127 ?_
            refine lv_iadd hx hb d_T_office_128 ?_
            refine lv_bipush (v := 16) hx hb d_T_office_129 (by decide) ?_
            refine lv_iload hx hb d_T_office_131 (lv_at hl 0 rfl) ?_
            refine lv_if_eq (tgt := 147) hx hb d_T_office_133 (by decide) (fun _ => ?_) (fun q9 => absurd rfl q9)
            refine lv_iconst (v := 0) hx hb d_T_office_147 (by decide) ?_
            refine cp_S (n := 1) [.int 0] hC (t_T_bit l D cM cG cI cJ 0) ⟨kc_T_bit, kn_T, k_T_179, ks_T_bit⟩ (by decide +kernel) ⟨rfl, rfl, Nat.le_of_ble_eq_true rfl, Nat.le_of_ble_eq_true rfl⟩ x_0 (yt_Y D cM cG cI cJ) hY trivial rfl hl.1 rfl (Nat.le_of_ble_eq_true rfl) d_T_office_148 ⟨Nat.le_of_ble_eq_true rfl, Nat.le_of_ble_eq_true rfl⟩ (fun r18 h19 => ?_)
            obtain rfl : r18 = 0 := by rcases h19 with ⟨q1, q2⟩ | ⟨q1, q2⟩ <;> first | exact q1 | exact absurd rfl q2 | exact absurd q2 (by decide)
            refine lv_imul hx hb d_T_office_151 ?_
            refine lv_iadd hx hb d_T_office_152 ?_
            subst hAe
            have e_S : sp_of (off, nm, ng, now, F, R) (nI i) y = (0, ((((0 + (2 * 0)) + (4 * 0)) + (8 * 0)) + (16 * 0))) := by simp only [sp_of, hcl]; rw [if_pos ⟨hix, b6⟩]; simp only [bt_I]; rw [if_neg c9, if_neg (fun q => c7 q.1), if_neg (fun q => c7 q.1), if_neg c8, if_neg (fun q => c8 q.1)]
            refine vx_ret ?_
            refine W.widen (k := 1) (n := 6) (by decide) (by decide) ?_
            exact W.iret (v := ((((0 + (2 * 0)) + (4 * 0)) + (8 * 0)) + (16 * 0))) hx hb hr (fun t ht hW => ⟨⟨_, (), rfl, ⟨by rw [e_S], by rw [e_S]⟩, by rw [ht]; exact hP, hD⟩, hS.F ht⟩) hS.2.2 d_T_office_153
          · refine lv_iconst (v := 1) hx hb d_T_office_66 (by decide) ?_
            refine lv_goto (tgt := 71) hx hb d_T_office_67 (by decide) ?_
            refine cp_S (n := 1) [.int 1] hC (t_T_bit l D cM cG cI cJ 1) ⟨kc_T_bit, kn_T, k_T_179, ks_T_bit⟩ (by decide +kernel) ⟨rfl, rfl, Nat.le_of_ble_eq_true rfl, Nat.le_of_ble_eq_true rfl⟩ x_0 (yt_Y D cM cG cI cJ) hY trivial rfl hl.1 rfl (Nat.le_of_ble_eq_true rfl) d_T_office_71 ⟨Nat.le_of_ble_eq_true rfl, Nat.le_of_ble_eq_true rfl⟩ (fun r20 h21 => ?_)
            obtain rfl : r20 = 1 := by rcases h21 with ⟨q1, q2⟩ | ⟨q1, q2⟩ <;> first | exact q1 | exact absurd rfl q2 | exact absurd q2 (by decide)
            refine lv_iconst (v := 2) hx hb d_T_office_74 (by decide) ?_
            refine lv_iload hx hb d_T_office_75 (lv_at hl 1 rfl) ?_
            refine lv_if_eq (tgt := 91) hx hb d_T_office_77 (by decide) (fun _ => ?_) (fun q9 => absurd rfl q9)
            refine lv_iconst (v := 0) hx hb d_T_office_91 (by decide) ?_
            refine cp_S (n := 1) [.int 0] hC (t_T_bit l D cM cG cI cJ 0) ⟨kc_T_bit, kn_T, k_T_179, ks_T_bit⟩ (by decide +kernel) ⟨rfl, rfl, Nat.le_of_ble_eq_true rfl, Nat.le_of_ble_eq_true rfl⟩ x_0 (yt_Y D cM cG cI cJ) hY trivial rfl hl.1 rfl (Nat.le_of_ble_eq_true rfl) d_T_office_92 ⟨Nat.le_of_ble_eq_true rfl, Nat.le_of_ble_eq_true rfl⟩ (fun r22 h23 => ?_)
            obtain rfl : r22 = 0 := by rcases h23 with ⟨q1, q2⟩ | ⟨q1, q2⟩ <;> first | exact q1 | exact absurd rfl q2 | exact absurd q2 (by decide)
            refine lv_imul hx hb d_T_office_95 ?_
            refine lv_iadd hx hb d_T_office_96 ?_
            refine lv_iconst (v := 4) hx hb d_T_office_97 (by decide) ?_
            refine lv_iload hx hb d_T_office_98 (lv_at hl 1 rfl) ?_
            refine lv_if_eq (tgt := 114) hx hb d_T_office_100 (by decide) (fun _ => ?_) (fun q9 => absurd rfl q9)
            refine lv_iconst (v := 0) hx hb d_T_office_114 (by decide) ?_
            refine cp_S (n := 1) [.int 0] hC (t_T_bit l D cM cG cI cJ 0) ⟨kc_T_bit, kn_T, k_T_179, ks_T_bit⟩ (by decide +kernel) ⟨rfl, rfl, Nat.le_of_ble_eq_true rfl, Nat.le_of_ble_eq_true rfl⟩ x_0 (yt_Y D cM cG cI cJ) hY trivial rfl hl.1 rfl (Nat.le_of_ble_eq_true rfl) d_T_office_115 ⟨Nat.le_of_ble_eq_true rfl, Nat.le_of_ble_eq_true rfl⟩ (fun r24 h25 => ?_)
            obtain rfl : r24 = 0 := by rcases h25 with ⟨q1, q2⟩ | ⟨q1, q2⟩ <;> first | exact q1 | exact absurd rfl q2 | exact absurd q2 (by decide)
            refine lv_imul hx hb d_T_office_118 ?_
            refine lv_iadd hx hb d_T_office_119 ?_
            refine lv_bipush (v := 8) hx hb d_T_office_120 (by decide) ?_
            refine lv_iload hx hb d_T_office_122 (lv_at hl 0 rfl) ?_
            refine cp_S (n := 1) [.int 0] hC (t_T_bit l D cM cG cI cJ 0) ⟨kc_T_bit, kn_T, k_T_179, ks_T_bit⟩ (by decide +kernel) ⟨rfl, rfl, Nat.le_of_ble_eq_true rfl, Nat.le_of_ble_eq_true rfl⟩ x_0 (yt_Y D cM cG cI cJ) hY trivial rfl hl.1 rfl (Nat.le_of_ble_eq_true rfl) d_T_office_124 ⟨Nat.le_of_ble_eq_true rfl, Nat.le_of_ble_eq_true rfl⟩ (fun r26 h27 => ?_)
            obtain rfl : r26 = 0 := by rcases h27 with ⟨q1, q2⟩ | ⟨q1, q2⟩ <;> first | exact q1 | exact absurd rfl q2 | exact absurd q2 (by decide)
            refine lv_imul hx hb d_T_office_127 ?_
            refine lv_iadd hx hb d_T_office_128 ?_
            refine lv_bipush (v := 16) hx hb d_T_office_129 (by decide) ?_
            refine lv_iload hx hb d_T_office_131 (lv_at hl 0 rfl) ?_
            refine lv_if_eq (tgt := 147) hx hb d_T_office_133 (by decide) (fun _ => ?_) (fun q9 => absurd rfl q9)
            refine lv_iconst (v := 0) hx hb d_T_office_147 (by decide) ?_
            refine cp_S (n := 1) [.int 0] hC (t_T_bit l D cM cG cI cJ 0) ⟨kc_T_bit, kn_T, k_T_179, ks_T_bit⟩ (by decide +kernel) ⟨rfl, rfl, Nat.le_of_ble_eq_true rfl, Nat.le_of_ble_eq_true rfl⟩ x_0 (yt_Y D cM cG cI cJ) hY trivial rfl hl.1 rfl (Nat.le_of_ble_eq_true rfl) d_T_office_148 ⟨Nat.le_of_ble_eq_true rfl, Nat.le_of_ble_eq_true rfl⟩ (fun r28 h29 => ?_)
            obtain rfl : r28 = 0 := by rcases h29 with ⟨q1, q2⟩ | ⟨q1, q2⟩ <;> first | exact q1 | exact absurd rfl q2 | exact absurd q2 (by decide)
            refine lv_imul hx hb d_T_office_151 ?_
            refine lv_iadd hx hb d_T_office_152 ?_
            subst hAe
            have e_S : sp_of (off, nm, ng, now, F, R) (nI i) y = (0, ((((1 + (2 * 0)) + (4 * 0)) + (8 * 0)) + (16 * 0))) := by simp only [sp_of, hcl]; rw [if_pos ⟨hix, b6⟩]; simp only [bt_I]; rw [if_pos c9, if_neg (fun q => c7 q.1), if_neg (fun q => c7 q.1), if_neg c8, if_neg (fun q => c8 q.1)]
            refine vx_ret ?_
            refine W.widen (k := 1) (n := 6) (by decide) (by decide) ?_
            exact W.iret (v := ((((1 + (2 * 0)) + (4 * 0)) + (8 * 0)) + (16 * 0))) hx hb hr (fun t ht hW => ⟨⟨_, (), rfl, ⟨by rw [e_S], by rw [e_S]⟩, by rw [ht]; exact hP, hD⟩, hS.F ht⟩) hS.2.2 d_T_office_153
        · refine lv_iconst (v := 1) hx hb d_T_office_51 (by decide) ?_
          refine lv_goto (tgt := 56) hx hb d_T_office_52 (by decide) ?_
          refine lv_istore (lv' := [(5, .int 1), (4, .int 0), (3, .ref (pm i)), (0, .ref o), (1, .int (nI i)), (2, .int y)]) hx hb d_T_office_56 hl (by decide) rfl (fun ls hl => ?_)
          refine lv_iload_n hx hb d_T_office_58 rfl (lv_at hl 5 rfl) ?_
          refine lv_aload_n hx hb d_T_office_59 rfl (lv_at hl 2 rfl) ?_
          refine va_get (D := D) (C := R_V) (T := F_V) (N := 19) hx hb htw uw_V hown hK hP (i + 3) (mv_at hi) rfl 0 (by decide) (htw _ k_T_76) (fun _ h9 => h9) rfl d_T_office_60 ?_
          refine lv_icmp_ne (tgt := 70) hx hb d_T_office_63 (by decide) (fun c30 => ?_) (fun c30 => ?_)
          · refine lv_iconst (v := 0) hx hb d_T_office_70 (by decide) ?_
            refine cp_S (n := 1) [.int 0] hC (t_T_bit l D cM cG cI cJ 0) ⟨kc_T_bit, kn_T, k_T_179, ks_T_bit⟩ (by decide +kernel) ⟨rfl, rfl, Nat.le_of_ble_eq_true rfl, Nat.le_of_ble_eq_true rfl⟩ x_0 (yt_Y D cM cG cI cJ) hY trivial rfl hl.1 rfl (Nat.le_of_ble_eq_true rfl) d_T_office_71 ⟨Nat.le_of_ble_eq_true rfl, Nat.le_of_ble_eq_true rfl⟩ (fun r31 h32 => ?_)
            obtain rfl : r31 = 0 := by rcases h32 with ⟨q1, q2⟩ | ⟨q1, q2⟩ <;> first | exact q1 | exact absurd rfl q2 | exact absurd q2 (by decide)
            refine lv_iconst (v := 2) hx hb d_T_office_74 (by decide) ?_
            refine lv_iload hx hb d_T_office_75 (lv_at hl 1 rfl) ?_
            refine lv_if_eq (tgt := 91) hx hb d_T_office_77 (by decide) (fun _ => ?_) (fun q9 => absurd rfl q9)
            refine lv_iconst (v := 0) hx hb d_T_office_91 (by decide) ?_
            refine cp_S (n := 1) [.int 0] hC (t_T_bit l D cM cG cI cJ 0) ⟨kc_T_bit, kn_T, k_T_179, ks_T_bit⟩ (by decide +kernel) ⟨rfl, rfl, Nat.le_of_ble_eq_true rfl, Nat.le_of_ble_eq_true rfl⟩ x_0 (yt_Y D cM cG cI cJ) hY trivial rfl hl.1 rfl (Nat.le_of_ble_eq_true rfl) d_T_office_92 ⟨Nat.le_of_ble_eq_true rfl, Nat.le_of_ble_eq_true rfl⟩ (fun r33 h34 => ?_)
            obtain rfl : r33 = 0 := by rcases h34 with ⟨q1, q2⟩ | ⟨q1, q2⟩ <;> first | exact q1 | exact absurd rfl q2 | exact absurd q2 (by decide)
            refine lv_imul hx hb d_T_office_95 ?_
            refine lv_iadd hx hb d_T_office_96 ?_
            refine lv_iconst (v := 4) hx hb d_T_office_97 (by decide) ?_
            refine lv_iload hx hb d_T_office_98 (lv_at hl 1 rfl) ?_
            refine lv_if_eq (tgt := 114) hx hb d_T_office_100 (by decide) (fun _ => ?_) (fun q9 => absurd rfl q9)
            refine lv_iconst (v := 0) hx hb d_T_office_114 (by decide) ?_
            refine cp_S (n := 1) [.int 0] hC (t_T_bit l D cM cG cI cJ 0) ⟨kc_T_bit, kn_T, k_T_179, ks_T_bit⟩ (by decide +kernel) ⟨rfl, rfl, Nat.le_of_ble_eq_true rfl, Nat.le_of_ble_eq_true rfl⟩ x_0 (yt_Y D cM cG cI cJ) hY trivial rfl hl.1 rfl (Nat.le_of_ble_eq_true rfl) d_T_office_115 ⟨Nat.le_of_ble_eq_true rfl, Nat.le_of_ble_eq_true rfl⟩ (fun r35 h36 => ?_)
            obtain rfl : r35 = 0 := by rcases h36 with ⟨q1, q2⟩ | ⟨q1, q2⟩ <;> first | exact q1 | exact absurd rfl q2 | exact absurd q2 (by decide)
            refine lv_imul hx hb d_T_office_118 ?_
            refine lv_iadd hx hb d_T_office_119 ?_
            refine lv_bipush (v := 8) hx hb d_T_office_120 (by decide) ?_
            refine lv_iload hx hb d_T_office_122 (lv_at hl 0 rfl) ?_
            refine cp_S (n := 1) [.int 1] hC (t_T_bit l D cM cG cI cJ 1) ⟨kc_T_bit, kn_T, k_T_179, ks_T_bit⟩ (by decide +kernel) ⟨rfl, rfl, Nat.le_of_ble_eq_true rfl, Nat.le_of_ble_eq_true rfl⟩ x_0 (yt_Y D cM cG cI cJ) hY trivial rfl hl.1 rfl (Nat.le_of_ble_eq_true rfl) d_T_office_124 ⟨Nat.le_of_ble_eq_true rfl, Nat.le_of_ble_eq_true rfl⟩ (fun r37 h38 => ?_)
            obtain rfl : r37 = 1 := by rcases h38 with ⟨q1, q2⟩ | ⟨q1, q2⟩ <;> first | exact q1 | exact absurd rfl q2 | exact absurd q2 (by decide)
            refine lv_imul hx hb d_T_office_127 ?_
            refine lv_iadd hx hb d_T_office_128 ?_
            refine lv_bipush (v := 16) hx hb d_T_office_129 (by decide) ?_
            refine lv_iload hx hb d_T_office_131 (lv_at hl 0 rfl) ?_
            refine lv_if_eq (tgt := 147) hx hb d_T_office_133 (by decide) (fun q9 => absurd q9 (by decide)) (fun _ => ?_)
            refine lv_aload_n hx hb d_T_office_136 rfl (lv_at hl 2 rfl) ?_
            refine cp_V (n := 0) [] hC (t_V_wereControlled l D cM cG cI cJ (pm i) F i) ⟨kc_V_wereControlled, kn_V, k_T_104, ki_V_wereControlled, kv_V_wereControlled⟩ (by decide +kernel) ⟨rfl, rfl, Nat.le_of_ble_eq_true rfl, Nat.le_of_ble_eq_true rfl⟩ x_0 (yt_Y D cM cG cI cJ) hY (wk_1 hP (mv_at hi)) (va_recv hK hP (ci := 1) (q0 := (i + 3)) rfl (mv_at hi)) rfl hl.1 rfl (Nat.le_of_ble_eq_true rfl) d_T_office_137 ⟨Nat.le_of_ble_eq_true rfl, Nat.le_of_ble_eq_true rfl⟩ (fun r39 h40 => ?_)
            rcases h40 with ⟨rfl, b41⟩ | ⟨rfl, b41⟩
            · have b41 : ¬ (F 9 i) = -1 := b41
              refine lv_if_eq (tgt := 147) hx hb d_T_office_140 (by decide) (fun q9 => absurd q9 (by decide)) (fun _ => ?_)
              refine lv_iconst (v := 1) hx hb d_T_office_143 (by decide) ?_
              refine lv_goto (tgt := 148) hx hb d_T_office_144 (by decide) ?_
              refine cp_S (n := 1) [.int 1] hC (t_T_bit l D cM cG cI cJ 1) ⟨kc_T_bit, kn_T, k_T_179, ks_T_bit⟩ (by decide +kernel) ⟨rfl, rfl, Nat.le_of_ble_eq_true rfl, Nat.le_of_ble_eq_true rfl⟩ x_0 (yt_Y D cM cG cI cJ) hY trivial rfl hl.1 rfl (Nat.le_of_ble_eq_true rfl) d_T_office_148 ⟨Nat.le_of_ble_eq_true rfl, Nat.le_of_ble_eq_true rfl⟩ (fun r42 h43 => ?_)
              obtain rfl : r42 = 1 := by rcases h43 with ⟨q1, q2⟩ | ⟨q1, q2⟩ <;> first | exact q1 | exact absurd rfl q2 | exact absurd q2 (by decide)
              refine lv_imul hx hb d_T_office_151 ?_
              refine lv_iadd hx hb d_T_office_152 ?_
              subst hAe
              have e_S : sp_of (off, nm, ng, now, F, R) (nI i) y = (0, ((((0 + (2 * 0)) + (4 * 0)) + (8 * 1)) + (16 * 1))) := by simp only [sp_of, hcl]; rw [if_pos ⟨hix, b6⟩]; simp only [bt_I]; rw [if_neg c30, if_neg (fun q => c7 q.1), if_neg (fun q => c7 q.1), if_pos c8, if_pos ⟨c8, b41⟩]
              refine vx_ret ?_
              refine W.widen (k := 1) (n := 6) (by decide) (by decide) ?_
              exact W.iret (v := ((((0 + (2 * 0)) + (4 * 0)) + (8 * 1)) + (16 * 1))) hx hb hr (fun t ht hW => ⟨⟨_, (), rfl, ⟨by rw [e_S], by rw [e_S]⟩, by rw [ht]; exact hP, hD⟩, hS.F ht⟩) hS.2.2 d_T_office_153
            · have b41 : (F 9 i) = -1 := b41
              refine lv_if_eq (tgt := 147) hx hb d_T_office_140 (by decide) (fun _ => ?_) (fun q9 => absurd rfl q9)
              refine lv_iconst (v := 0) hx hb d_T_office_147 (by decide) ?_
              refine cp_S (n := 1) [.int 0] hC (t_T_bit l D cM cG cI cJ 0) ⟨kc_T_bit, kn_T, k_T_179, ks_T_bit⟩ (by decide +kernel) ⟨rfl, rfl, Nat.le_of_ble_eq_true rfl, Nat.le_of_ble_eq_true rfl⟩ x_0 (yt_Y D cM cG cI cJ) hY trivial rfl hl.1 rfl (Nat.le_of_ble_eq_true rfl) d_T_office_148 ⟨Nat.le_of_ble_eq_true rfl, Nat.le_of_ble_eq_true rfl⟩ (fun r44 h45 => ?_)
              obtain rfl : r44 = 0 := by rcases h45 with ⟨q1, q2⟩ | ⟨q1, q2⟩ <;> first | exact q1 | exact absurd rfl q2 | exact absurd q2 (by decide)
              refine lv_imul hx hb d_T_office_151 ?_
              refine lv_iadd hx hb d_T_office_152 ?_
              subst hAe
              have e_S : sp_of (off, nm, ng, now, F, R) (nI i) y = (0, ((((0 + (2 * 0)) + (4 * 0)) + (8 * 1)) + (16 * 0))) := by simp only [sp_of, hcl]; rw [if_pos ⟨hix, b6⟩]; simp only [bt_I]; rw [if_neg c30, if_neg (fun q => c7 q.1), if_neg (fun q => c7 q.1), if_pos c8, if_neg (fun q => q.2 b41)]
              refine vx_ret ?_
              refine W.widen (k := 1) (n := 6) (by decide) (by decide) ?_
              exact W.iret (v := ((((0 + (2 * 0)) + (4 * 0)) + (8 * 1)) + (16 * 0))) hx hb hr (fun t ht hW => ⟨⟨_, (), rfl, ⟨by rw [e_S], by rw [e_S]⟩, by rw [ht]; exact hP, hD⟩, hS.F ht⟩) hS.2.2 d_T_office_153
          · refine lv_iconst (v := 1) hx hb d_T_office_66 (by decide) ?_
            refine lv_goto (tgt := 71) hx hb d_T_office_67 (by decide) ?_
            refine cp_S (n := 1) [.int 1] hC (t_T_bit l D cM cG cI cJ 1) ⟨kc_T_bit, kn_T, k_T_179, ks_T_bit⟩ (by decide +kernel) ⟨rfl, rfl, Nat.le_of_ble_eq_true rfl, Nat.le_of_ble_eq_true rfl⟩ x_0 (yt_Y D cM cG cI cJ) hY trivial rfl hl.1 rfl (Nat.le_of_ble_eq_true rfl) d_T_office_71 ⟨Nat.le_of_ble_eq_true rfl, Nat.le_of_ble_eq_true rfl⟩ (fun r46 h47 => ?_)
            obtain rfl : r46 = 1 := by rcases h47 with ⟨q1, q2⟩ | ⟨q1, q2⟩ <;> first | exact q1 | exact absurd rfl q2 | exact absurd q2 (by decide)
            refine lv_iconst (v := 2) hx hb d_T_office_74 (by decide) ?_
            refine lv_iload hx hb d_T_office_75 (lv_at hl 1 rfl) ?_
            refine lv_if_eq (tgt := 91) hx hb d_T_office_77 (by decide) (fun _ => ?_) (fun q9 => absurd rfl q9)
            refine lv_iconst (v := 0) hx hb d_T_office_91 (by decide) ?_
            refine cp_S (n := 1) [.int 0] hC (t_T_bit l D cM cG cI cJ 0) ⟨kc_T_bit, kn_T, k_T_179, ks_T_bit⟩ (by decide +kernel) ⟨rfl, rfl, Nat.le_of_ble_eq_true rfl, Nat.le_of_ble_eq_true rfl⟩ x_0 (yt_Y D cM cG cI cJ) hY trivial rfl hl.1 rfl (Nat.le_of_ble_eq_true rfl) d_T_office_92 ⟨Nat.le_of_ble_eq_true rfl, Nat.le_of_ble_eq_true rfl⟩ (fun r48 h49 => ?_)
            obtain rfl : r48 = 0 := by rcases h49 with ⟨q1, q2⟩ | ⟨q1, q2⟩ <;> first | exact q1 | exact absurd rfl q2 | exact absurd q2 (by decide)
            refine lv_imul hx hb d_T_office_95 ?_
            refine lv_iadd hx hb d_T_office_96 ?_
            refine lv_iconst (v := 4) hx hb d_T_office_97 (by decide) ?_
            refine lv_iload hx hb d_T_office_98 (lv_at hl 1 rfl) ?_
            refine lv_if_eq (tgt := 114) hx hb d_T_office_100 (by decide) (fun _ => ?_) (fun q9 => absurd rfl q9)
            refine lv_iconst (v := 0) hx hb d_T_office_114 (by decide) ?_
            refine cp_S (n := 1) [.int 0] hC (t_T_bit l D cM cG cI cJ 0) ⟨kc_T_bit, kn_T, k_T_179, ks_T_bit⟩ (by decide +kernel) ⟨rfl, rfl, Nat.le_of_ble_eq_true rfl, Nat.le_of_ble_eq_true rfl⟩ x_0 (yt_Y D cM cG cI cJ) hY trivial rfl hl.1 rfl (Nat.le_of_ble_eq_true rfl) d_T_office_115 ⟨Nat.le_of_ble_eq_true rfl, Nat.le_of_ble_eq_true rfl⟩ (fun r50 h51 => ?_)
            obtain rfl : r50 = 0 := by rcases h51 with ⟨q1, q2⟩ | ⟨q1, q2⟩ <;> first | exact q1 | exact absurd rfl q2 | exact absurd q2 (by decide)
            refine lv_imul hx hb d_T_office_118 ?_
            refine lv_iadd hx hb d_T_office_119 ?_
            refine lv_bipush (v := 8) hx hb d_T_office_120 (by decide) ?_
            refine lv_iload hx hb d_T_office_122 (lv_at hl 0 rfl) ?_
            refine cp_S (n := 1) [.int 1] hC (t_T_bit l D cM cG cI cJ 1) ⟨kc_T_bit, kn_T, k_T_179, ks_T_bit⟩ (by decide +kernel) ⟨rfl, rfl, Nat.le_of_ble_eq_true rfl, Nat.le_of_ble_eq_true rfl⟩ x_0 (yt_Y D cM cG cI cJ) hY trivial rfl hl.1 rfl (Nat.le_of_ble_eq_true rfl) d_T_office_124 ⟨Nat.le_of_ble_eq_true rfl, Nat.le_of_ble_eq_true rfl⟩ (fun r52 h53 => ?_)
            obtain rfl : r52 = 1 := by rcases h53 with ⟨q1, q2⟩ | ⟨q1, q2⟩ <;> first | exact q1 | exact absurd rfl q2 | exact absurd q2 (by decide)
            refine lv_imul hx hb d_T_office_127 ?_
            refine lv_iadd hx hb d_T_office_128 ?_
            refine lv_bipush (v := 16) hx hb d_T_office_129 (by decide) ?_
            refine lv_iload hx hb d_T_office_131 (lv_at hl 0 rfl) ?_
            refine lv_if_eq (tgt := 147) hx hb d_T_office_133 (by decide) (fun q9 => absurd q9 (by decide)) (fun _ => ?_)
            refine lv_aload_n hx hb d_T_office_136 rfl (lv_at hl 2 rfl) ?_
            refine cp_V (n := 0) [] hC (t_V_wereControlled l D cM cG cI cJ (pm i) F i) ⟨kc_V_wereControlled, kn_V, k_T_104, ki_V_wereControlled, kv_V_wereControlled⟩ (by decide +kernel) ⟨rfl, rfl, Nat.le_of_ble_eq_true rfl, Nat.le_of_ble_eq_true rfl⟩ x_0 (yt_Y D cM cG cI cJ) hY (wk_1 hP (mv_at hi)) (va_recv hK hP (ci := 1) (q0 := (i + 3)) rfl (mv_at hi)) rfl hl.1 rfl (Nat.le_of_ble_eq_true rfl) d_T_office_137 ⟨Nat.le_of_ble_eq_true rfl, Nat.le_of_ble_eq_true rfl⟩ (fun r54 h55 => ?_)
            rcases h55 with ⟨rfl, b56⟩ | ⟨rfl, b56⟩
            · have b56 : ¬ (F 9 i) = -1 := b56
              refine lv_if_eq (tgt := 147) hx hb d_T_office_140 (by decide) (fun q9 => absurd q9 (by decide)) (fun _ => ?_)
              refine lv_iconst (v := 1) hx hb d_T_office_143 (by decide) ?_
              refine lv_goto (tgt := 148) hx hb d_T_office_144 (by decide) ?_
              refine cp_S (n := 1) [.int 1] hC (t_T_bit l D cM cG cI cJ 1) ⟨kc_T_bit, kn_T, k_T_179, ks_T_bit⟩ (by decide +kernel) ⟨rfl, rfl, Nat.le_of_ble_eq_true rfl, Nat.le_of_ble_eq_true rfl⟩ x_0 (yt_Y D cM cG cI cJ) hY trivial rfl hl.1 rfl (Nat.le_of_ble_eq_true rfl) d_T_office_148 ⟨Nat.le_of_ble_eq_true rfl, Nat.le_of_ble_eq_true rfl⟩ (fun r57 h58 => ?_)
              obtain rfl : r57 = 1 := by rcases h58 with ⟨q1, q2⟩ | ⟨q1, q2⟩ <;> first | exact q1 | exact absurd rfl q2 | exact absurd q2 (by decide)
              refine lv_imul hx hb d_T_office_151 ?_
              refine lv_iadd hx hb d_T_office_152 ?_
              subst hAe
              have e_S : sp_of (off, nm, ng, now, F, R) (nI i) y = (0, ((((1 + (2 * 0)) + (4 * 0)) + (8 * 1)) + (16 * 1))) := by simp only [sp_of, hcl]; rw [if_pos ⟨hix, b6⟩]; simp only [bt_I]; rw [if_pos c30, if_neg (fun q => c7 q.1), if_neg (fun q => c7 q.1), if_pos c8, if_pos ⟨c8, b56⟩]
              refine vx_ret ?_
              refine W.widen (k := 1) (n := 6) (by decide) (by decide) ?_
              exact W.iret (v := ((((1 + (2 * 0)) + (4 * 0)) + (8 * 1)) + (16 * 1))) hx hb hr (fun t ht hW => ⟨⟨_, (), rfl, ⟨by rw [e_S], by rw [e_S]⟩, by rw [ht]; exact hP, hD⟩, hS.F ht⟩) hS.2.2 d_T_office_153
            · have b56 : (F 9 i) = -1 := b56
              refine lv_if_eq (tgt := 147) hx hb d_T_office_140 (by decide) (fun _ => ?_) (fun q9 => absurd rfl q9)
              refine lv_iconst (v := 0) hx hb d_T_office_147 (by decide) ?_
              refine cp_S (n := 1) [.int 0] hC (t_T_bit l D cM cG cI cJ 0) ⟨kc_T_bit, kn_T, k_T_179, ks_T_bit⟩ (by decide +kernel) ⟨rfl, rfl, Nat.le_of_ble_eq_true rfl, Nat.le_of_ble_eq_true rfl⟩ x_0 (yt_Y D cM cG cI cJ) hY trivial rfl hl.1 rfl (Nat.le_of_ble_eq_true rfl) d_T_office_148 ⟨Nat.le_of_ble_eq_true rfl, Nat.le_of_ble_eq_true rfl⟩ (fun r59 h60 => ?_)
              obtain rfl : r59 = 0 := by rcases h60 with ⟨q1, q2⟩ | ⟨q1, q2⟩ <;> first | exact q1 | exact absurd rfl q2 | exact absurd q2 (by decide)
              refine lv_imul hx hb d_T_office_151 ?_
              refine lv_iadd hx hb d_T_office_152 ?_
              subst hAe
              have e_S : sp_of (off, nm, ng, now, F, R) (nI i) y = (0, ((((1 + (2 * 0)) + (4 * 0)) + (8 * 1)) + (16 * 0))) := by simp only [sp_of, hcl]; rw [if_pos ⟨hix, b6⟩]; simp only [bt_I]; rw [if_pos c30, if_neg (fun q => c7 q.1), if_neg (fun q => c7 q.1), if_pos c8, if_neg (fun q => q.2 b56)]
              refine vx_ret ?_
              refine W.widen (k := 1) (n := 6) (by decide) (by decide) ?_
              exact W.iret (v := ((((1 + (2 * 0)) + (4 * 0)) + (8 * 1)) + (16 * 0))) hx hb hr (fun t ht hW => ⟨⟨_, (), rfl, ⟨by rw [e_S], by rw [e_S]⟩, by rw [ht]; exact hP, hD⟩, hS.F ht⟩) hS.2.2 d_T_office_153
      · refine lv_iconst (v := 1) hx hb d_T_office_36 (by decide) ?_
        refine lv_goto (tgt := 41) hx hb d_T_office_37 (by decide) ?_
        refine lv_istore (lv' := [(4, .int 1), (3, .ref (pm i)), (0, .ref o), (1, .int (nI i)), (2, .int y)]) hx hb d_T_office_41 hl (by decide) rfl (fun ls hl => ?_)
        refine lv_iload_n hx hb d_T_office_43 rfl (lv_at hl 4 rfl) ?_
        refine lv_aload_n hx hb d_T_office_44 rfl (lv_at hl 1 rfl) ?_
        refine va_get (D := D) (C := R_V) (T := F_V) (N := 19) hx hb htw uw_V hown hK hP (i + 3) (mv_at hi) rfl 6 (by decide) (htw _ k_T_82) (fun _ h9 => h9) rfl d_T_office_45 ?_
        refine lv_icmp_ne (tgt := 55) hx hb d_T_office_48 (by decide) (fun c61 => ?_) (fun c61 => ?_)
        · refine lv_iconst (v := 0) hx hb d_T_office_55 (by decide) ?_
          refine lv_istore (lv' := [(5, .int 0), (4, .int 1), (3, .ref (pm i)), (0, .ref o), (1, .int (nI i)), (2, .int y)]) hx hb d_T_office_56 hl (by decide) rfl (fun ls hl => ?_)
          refine lv_iload_n hx hb d_T_office_58 rfl (lv_at hl 5 rfl) ?_
          refine lv_aload_n hx hb d_T_office_59 rfl (lv_at hl 2 rfl) ?_
          refine va_get (D := D) (C := R_V) (T := F_V) (N := 19) hx hb htw uw_V hown hK hP (i + 3) (mv_at hi) rfl 0 (by decide) (htw _ k_T_76) (fun _ h9 => h9) rfl d_T_office_60 ?_
          refine lv_icmp_ne (tgt := 70) hx hb d_T_office_63 (by decide) (fun c62 => ?_) (fun c62 => ?_)
          · refine lv_iconst (v := 0) hx hb d_T_office_70 (by decide) ?_
            refine cp_S (n := 1) [.int 0] hC (t_T_bit l D cM cG cI cJ 0) ⟨kc_T_bit, kn_T, k_T_179, ks_T_bit⟩ (by decide +kernel) ⟨rfl, rfl, Nat.le_of_ble_eq_true rfl, Nat.le_of_ble_eq_true rfl⟩ x_0 (yt_Y D cM cG cI cJ) hY trivial rfl hl.1 rfl (Nat.le_of_ble_eq_true rfl) d_T_office_71 ⟨Nat.le_of_ble_eq_true rfl, Nat.le_of_ble_eq_true rfl⟩ (fun r63 h64 => ?_)
            obtain rfl : r63 = 0 := by rcases h64 with ⟨q1, q2⟩ | ⟨q1, q2⟩ <;> first | exact q1 | exact absurd rfl q2 | exact absurd q2 (by decide)
            refine lv_iconst (v := 2) hx hb d_T_office_74 (by decide) ?_
            refine lv_iload hx hb d_T_office_75 (lv_at hl 1 rfl) ?_
            refine lv_if_eq (tgt := 91) hx hb d_T_office_77 (by decide) (fun q9 => absurd q9 (by decide)) (fun _ => ?_)
            refine lv_aload_n hx hb d_T_office_80 rfl (lv_at hl 2 rfl) ?_
            refine va_get (D := D) (C := R_V) (T := F_V) (N := 19) hx hb htw uw_V hown hK hP (i + 3) (mv_at hi) rfl 17 (by decide) (htw _ k_T_187) (fun _ h9 => h9) rfl d_T_office_81 ?_
            refine lv_if_eq (tgt := 91) hx hb d_T_office_84 (by decide) (fun c65 => ?_) (fun c65 => ?_)
            · refine lv_iconst (v := 0) hx hb d_T_office_91 (by decide) ?_
              refine cp_S (n := 1) [.int 0] hC (t_T_bit l D cM cG cI cJ 0) ⟨kc_T_bit, kn_T, k_T_179, ks_T_bit⟩ (by decide +kernel) ⟨rfl, rfl, Nat.le_of_ble_eq_true rfl, Nat.le_of_ble_eq_true rfl⟩ x_0 (yt_Y D cM cG cI cJ) hY trivial rfl hl.1 rfl (Nat.le_of_ble_eq_true rfl) d_T_office_92 ⟨Nat.le_of_ble_eq_true rfl, Nat.le_of_ble_eq_true rfl⟩ (fun r66 h67 => ?_)
              obtain rfl : r66 = 0 := by rcases h67 with ⟨q1, q2⟩ | ⟨q1, q2⟩ <;> first | exact q1 | exact absurd rfl q2 | exact absurd q2 (by decide)
              refine lv_imul hx hb d_T_office_95 ?_
              refine lv_iadd hx hb d_T_office_96 ?_
              refine lv_iconst (v := 4) hx hb d_T_office_97 (by decide) ?_
              refine lv_iload hx hb d_T_office_98 (lv_at hl 1 rfl) ?_
              refine lv_if_eq (tgt := 114) hx hb d_T_office_100 (by decide) (fun q9 => absurd q9 (by decide)) (fun _ => ?_)
              refine lv_aload_n hx hb d_T_office_103 rfl (lv_at hl 2 rfl) ?_
              refine va_get (D := D) (C := R_V) (T := F_V) (N := 19) hx hb htw uw_V hown hK hP (i + 3) (mv_at hi) rfl 18 (by decide) (htw _ k_T_190) (fun _ h9 => h9) rfl d_T_office_104 ?_
              refine lv_if_eq (tgt := 114) hx hb d_T_office_107 (by decide) (fun c68 => ?_) (fun c68 => ?_)
              · refine lv_iconst (v := 0) hx hb d_T_office_114 (by decide) ?_
                refine cp_S (n := 1) [.int 0] hC (t_T_bit l D cM cG cI cJ 0) ⟨kc_T_bit, kn_T, k_T_179, ks_T_bit⟩ (by decide +kernel) ⟨rfl, rfl, Nat.le_of_ble_eq_true rfl, Nat.le_of_ble_eq_true rfl⟩ x_0 (yt_Y D cM cG cI cJ) hY trivial rfl hl.1 rfl (Nat.le_of_ble_eq_true rfl) d_T_office_115 ⟨Nat.le_of_ble_eq_true rfl, Nat.le_of_ble_eq_true rfl⟩ (fun r69 h70 => ?_)
                obtain rfl : r69 = 0 := by rcases h70 with ⟨q1, q2⟩ | ⟨q1, q2⟩ <;> first | exact q1 | exact absurd rfl q2 | exact absurd q2 (by decide)
                refine lv_imul hx hb d_T_office_118 ?_
                refine lv_iadd hx hb d_T_office_119 ?_
                refine lv_bipush (v := 8) hx hb d_T_office_120 (by decide) ?_
                refine lv_iload hx hb d_T_office_122 (lv_at hl 0 rfl) ?_
                refine cp_S (n := 1) [.int 0] hC (t_T_bit l D cM cG cI cJ 0) ⟨kc_T_bit, kn_T, k_T_179, ks_T_bit⟩ (by decide +kernel) ⟨rfl, rfl, Nat.le_of_ble_eq_true rfl, Nat.le_of_ble_eq_true rfl⟩ x_0 (yt_Y D cM cG cI cJ) hY trivial rfl hl.1 rfl (Nat.le_of_ble_eq_true rfl) d_T_office_124 ⟨Nat.le_of_ble_eq_true rfl, Nat.le_of_ble_eq_true rfl⟩ (fun r71 h72 => ?_)
                obtain rfl : r71 = 0 := by rcases h72 with ⟨q1, q2⟩ | ⟨q1, q2⟩ <;> first | exact q1 | exact absurd rfl q2 | exact absurd q2 (by decide)
                refine lv_imul hx hb d_T_office_127 ?_
                refine lv_iadd hx hb d_T_office_128 ?_
                refine lv_bipush (v := 16) hx hb d_T_office_129 (by decide) ?_
                refine lv_iload hx hb d_T_office_131 (lv_at hl 0 rfl) ?_
                refine lv_if_eq (tgt := 147) hx hb d_T_office_133 (by decide) (fun _ => ?_) (fun q9 => absurd rfl q9)
                refine lv_iconst (v := 0) hx hb d_T_office_147 (by decide) ?_
                refine cp_S (n := 1) [.int 0] hC (t_T_bit l D cM cG cI cJ 0) ⟨kc_T_bit, kn_T, k_T_179, ks_T_bit⟩ (by decide +kernel) ⟨rfl, rfl, Nat.le_of_ble_eq_true rfl, Nat.le_of_ble_eq_true rfl⟩ x_0 (yt_Y D cM cG cI cJ) hY trivial rfl hl.1 rfl (Nat.le_of_ble_eq_true rfl) d_T_office_148 ⟨Nat.le_of_ble_eq_true rfl, Nat.le_of_ble_eq_true rfl⟩ (fun r73 h74 => ?_)
                obtain rfl : r73 = 0 := by rcases h74 with ⟨q1, q2⟩ | ⟨q1, q2⟩ <;> first | exact q1 | exact absurd rfl q2 | exact absurd q2 (by decide)
                refine lv_imul hx hb d_T_office_151 ?_
                refine lv_iadd hx hb d_T_office_152 ?_
                subst hAe
                have e_S : sp_of (off, nm, ng, now, F, R) (nI i) y = (0, ((((0 + (2 * 0)) + (4 * 0)) + (8 * 0)) + (16 * 0))) := by simp only [sp_of, hcl]; rw [if_pos ⟨hix, b6⟩]; simp only [bt_I]; rw [if_neg c62, if_neg (fun q => q.2 c65), if_neg (fun q => q.2 c68), if_neg c61, if_neg (fun q => c61 q.1)]
                refine vx_ret ?_
                refine W.widen (k := 1) (n := 6) (by decide) (by decide) ?_
                exact W.iret (v := ((((0 + (2 * 0)) + (4 * 0)) + (8 * 0)) + (16 * 0))) hx hb hr (fun t ht hW => ⟨⟨_, (), rfl, ⟨by rw [e_S], by rw [e_S]⟩, by rw [ht]; exact hP, hD⟩, hS.F ht⟩) hS.2.2 d_T_office_153
              · refine lv_iconst (v := 1) hx hb d_T_office_110 (by decide) ?_
                refine lv_goto (tgt := 115) hx hb d_T_office_111 (by decide) ?_
                refine cp_S (n := 1) [.int 1] hC (t_T_bit l D cM cG cI cJ 1) ⟨kc_T_bit, kn_T, k_T_179, ks_T_bit⟩ (by decide +kernel) ⟨rfl, rfl, Nat.le_of_ble_eq_true rfl, Nat.le_of_ble_eq_true rfl⟩ x_0 (yt_Y D cM cG cI cJ) hY trivial rfl hl.1 rfl (Nat.le_of_ble_eq_true rfl) d_T_office_115 ⟨Nat.le_of_ble_eq_true rfl, Nat.le_of_ble_eq_true rfl⟩ (fun r75 h76 => ?_)
                obtain rfl : r75 = 1 := by rcases h76 with ⟨q1, q2⟩ | ⟨q1, q2⟩ <;> first | exact q1 | exact absurd rfl q2 | exact absurd q2 (by decide)
                refine lv_imul hx hb d_T_office_118 ?_
                refine lv_iadd hx hb d_T_office_119 ?_
                refine lv_bipush (v := 8) hx hb d_T_office_120 (by decide) ?_
                refine lv_iload hx hb d_T_office_122 (lv_at hl 0 rfl) ?_
                refine cp_S (n := 1) [.int 0] hC (t_T_bit l D cM cG cI cJ 0) ⟨kc_T_bit, kn_T, k_T_179, ks_T_bit⟩ (by decide +kernel) ⟨rfl, rfl, Nat.le_of_ble_eq_true rfl, Nat.le_of_ble_eq_true rfl⟩ x_0 (yt_Y D cM cG cI cJ) hY trivial rfl hl.1 rfl (Nat.le_of_ble_eq_true rfl) d_T_office_124 ⟨Nat.le_of_ble_eq_true rfl, Nat.le_of_ble_eq_true rfl⟩ (fun r77 h78 => ?_)
                obtain rfl : r77 = 0 := by rcases h78 with ⟨q1, q2⟩ | ⟨q1, q2⟩ <;> first | exact q1 | exact absurd rfl q2 | exact absurd q2 (by decide)
                refine lv_imul hx hb d_T_office_127 ?_
                refine lv_iadd hx hb d_T_office_128 ?_
                refine lv_bipush (v := 16) hx hb d_T_office_129 (by decide) ?_
                refine lv_iload hx hb d_T_office_131 (lv_at hl 0 rfl) ?_
                refine lv_if_eq (tgt := 147) hx hb d_T_office_133 (by decide) (fun _ => ?_) (fun q9 => absurd rfl q9)
                refine lv_iconst (v := 0) hx hb d_T_office_147 (by decide) ?_
                refine cp_S (n := 1) [.int 0] hC (t_T_bit l D cM cG cI cJ 0) ⟨kc_T_bit, kn_T, k_T_179, ks_T_bit⟩ (by decide +kernel) ⟨rfl, rfl, Nat.le_of_ble_eq_true rfl, Nat.le_of_ble_eq_true rfl⟩ x_0 (yt_Y D cM cG cI cJ) hY trivial rfl hl.1 rfl (Nat.le_of_ble_eq_true rfl) d_T_office_148 ⟨Nat.le_of_ble_eq_true rfl, Nat.le_of_ble_eq_true rfl⟩ (fun r79 h80 => ?_)
                obtain rfl : r79 = 0 := by rcases h80 with ⟨q1, q2⟩ | ⟨q1, q2⟩ <;> first | exact q1 | exact absurd rfl q2 | exact absurd q2 (by decide)
                refine lv_imul hx hb d_T_office_151 ?_
                refine lv_iadd hx hb d_T_office_152 ?_
                subst hAe
                have e_S : sp_of (off, nm, ng, now, F, R) (nI i) y = (0, ((((0 + (2 * 0)) + (4 * 1)) + (8 * 0)) + (16 * 0))) := by simp only [sp_of, hcl]; rw [if_pos ⟨hix, b6⟩]; simp only [bt_I]; rw [if_neg c62, if_neg (fun q => q.2 c65), if_pos ⟨c7, c68⟩, if_neg c61, if_neg (fun q => c61 q.1)]
                refine vx_ret ?_
                refine W.widen (k := 1) (n := 6) (by decide) (by decide) ?_
                exact W.iret (v := ((((0 + (2 * 0)) + (4 * 1)) + (8 * 0)) + (16 * 0))) hx hb hr (fun t ht hW => ⟨⟨_, (), rfl, ⟨by rw [e_S], by rw [e_S]⟩, by rw [ht]; exact hP, hD⟩, hS.F ht⟩) hS.2.2 d_T_office_153
            · refine lv_iconst (v := 1) hx hb d_T_office_87 (by decide) ?_
              refine lv_goto (tgt := 92) hx hb d_T_office_88 (by decide) ?_
              refine cp_S (n := 1) [.int 1] hC (t_T_bit l D cM cG cI cJ 1) ⟨kc_T_bit, kn_T, k_T_179, ks_T_bit⟩ (by decide +kernel) ⟨rfl, rfl, Nat.le_of_ble_eq_true rfl, Nat.le_of_ble_eq_true rfl⟩ x_0 (yt_Y D cM cG cI cJ) hY trivial rfl hl.1 rfl (Nat.le_of_ble_eq_true rfl) d_T_office_92 ⟨Nat.le_of_ble_eq_true rfl, Nat.le_of_ble_eq_true rfl⟩ (fun r81 h82 => ?_)
              obtain rfl : r81 = 1 := by rcases h82 with ⟨q1, q2⟩ | ⟨q1, q2⟩ <;> first | exact q1 | exact absurd rfl q2 | exact absurd q2 (by decide)
              refine lv_imul hx hb d_T_office_95 ?_
              refine lv_iadd hx hb d_T_office_96 ?_
              refine lv_iconst (v := 4) hx hb d_T_office_97 (by decide) ?_
              refine lv_iload hx hb d_T_office_98 (lv_at hl 1 rfl) ?_
              refine lv_if_eq (tgt := 114) hx hb d_T_office_100 (by decide) (fun q9 => absurd q9 (by decide)) (fun _ => ?_)
              refine lv_aload_n hx hb d_T_office_103 rfl (lv_at hl 2 rfl) ?_
              refine va_get (D := D) (C := R_V) (T := F_V) (N := 19) hx hb htw uw_V hown hK hP (i + 3) (mv_at hi) rfl 18 (by decide) (htw _ k_T_190) (fun _ h9 => h9) rfl d_T_office_104 ?_
              refine lv_if_eq (tgt := 114) hx hb d_T_office_107 (by decide) (fun c83 => ?_) (fun c83 => ?_)
              · refine lv_iconst (v := 0) hx hb d_T_office_114 (by decide) ?_
                refine cp_S (n := 1) [.int 0] hC (t_T_bit l D cM cG cI cJ 0) ⟨kc_T_bit, kn_T, k_T_179, ks_T_bit⟩ (by decide +kernel) ⟨rfl, rfl, Nat.le_of_ble_eq_true rfl, Nat.le_of_ble_eq_true rfl⟩ x_0 (yt_Y D cM cG cI cJ) hY trivial rfl hl.1 rfl (Nat.le_of_ble_eq_true rfl) d_T_office_115 ⟨Nat.le_of_ble_eq_true rfl, Nat.le_of_ble_eq_true rfl⟩ (fun r84 h85 => ?_)
                obtain rfl : r84 = 0 := by rcases h85 with ⟨q1, q2⟩ | ⟨q1, q2⟩ <;> first | exact q1 | exact absurd rfl q2 | exact absurd q2 (by decide)
                refine lv_imul hx hb d_T_office_118 ?_
                refine lv_iadd hx hb d_T_office_119 ?_
                refine lv_bipush (v := 8) hx hb d_T_office_120 (by decide) ?_
                refine lv_iload hx hb d_T_office_122 (lv_at hl 0 rfl) ?_
                refine cp_S (n := 1) [.int 0] hC (t_T_bit l D cM cG cI cJ 0) ⟨kc_T_bit, kn_T, k_T_179, ks_T_bit⟩ (by decide +kernel) ⟨rfl, rfl, Nat.le_of_ble_eq_true rfl, Nat.le_of_ble_eq_true rfl⟩ x_0 (yt_Y D cM cG cI cJ) hY trivial rfl hl.1 rfl (Nat.le_of_ble_eq_true rfl) d_T_office_124 ⟨Nat.le_of_ble_eq_true rfl, Nat.le_of_ble_eq_true rfl⟩ (fun r86 h87 => ?_)
                obtain rfl : r86 = 0 := by rcases h87 with ⟨q1, q2⟩ | ⟨q1, q2⟩ <;> first | exact q1 | exact absurd rfl q2 | exact absurd q2 (by decide)
                refine lv_imul hx hb d_T_office_127 ?_
                refine lv_iadd hx hb d_T_office_128 ?_
                refine lv_bipush (v := 16) hx hb d_T_office_129 (by decide) ?_
                refine lv_iload hx hb d_T_office_131 (lv_at hl 0 rfl) ?_
                refine lv_if_eq (tgt := 147) hx hb d_T_office_133 (by decide) (fun _ => ?_) (fun q9 => absurd rfl q9)
                refine lv_iconst (v := 0) hx hb d_T_office_147 (by decide) ?_
                refine cp_S (n := 1) [.int 0] hC (t_T_bit l D cM cG cI cJ 0) ⟨kc_T_bit, kn_T, k_T_179, ks_T_bit⟩ (by decide +kernel) ⟨rfl, rfl, Nat.le_of_ble_eq_true rfl, Nat.le_of_ble_eq_true rfl⟩ x_0 (yt_Y D cM cG cI cJ) hY trivial rfl hl.1 rfl (Nat.le_of_ble_eq_true rfl) d_T_office_148 ⟨Nat.le_of_ble_eq_true rfl, Nat.le_of_ble_eq_true rfl⟩ (fun r88 h89 => ?_)
                obtain rfl : r88 = 0 := by rcases h89 with ⟨q1, q2⟩ | ⟨q1, q2⟩ <;> first | exact q1 | exact absurd rfl q2 | exact absurd q2 (by decide)
                refine lv_imul hx hb d_T_office_151 ?_
                refine lv_iadd hx hb d_T_office_152 ?_
                subst hAe
                have e_S : sp_of (off, nm, ng, now, F, R) (nI i) y = (0, ((((0 + (2 * 1)) + (4 * 0)) + (8 * 0)) + (16 * 0))) := by simp only [sp_of, hcl]; rw [if_pos ⟨hix, b6⟩]; simp only [bt_I]; rw [if_neg c62, if_pos ⟨c7, c65⟩, if_neg (fun q => q.2 c83), if_neg c61, if_neg (fun q => c61 q.1)]
                refine vx_ret ?_
                refine W.widen (k := 1) (n := 6) (by decide) (by decide) ?_
                exact W.iret (v := ((((0 + (2 * 1)) + (4 * 0)) + (8 * 0)) + (16 * 0))) hx hb hr (fun t ht hW => ⟨⟨_, (), rfl, ⟨by rw [e_S], by rw [e_S]⟩, by rw [ht]; exact hP, hD⟩, hS.F ht⟩) hS.2.2 d_T_office_153
              · refine lv_iconst (v := 1) hx hb d_T_office_110 (by decide) ?_
                refine lv_goto (tgt := 115) hx hb d_T_office_111 (by decide) ?_
                refine cp_S (n := 1) [.int 1] hC (t_T_bit l D cM cG cI cJ 1) ⟨kc_T_bit, kn_T, k_T_179, ks_T_bit⟩ (by decide +kernel) ⟨rfl, rfl, Nat.le_of_ble_eq_true rfl, Nat.le_of_ble_eq_true rfl⟩ x_0 (yt_Y D cM cG cI cJ) hY trivial rfl hl.1 rfl (Nat.le_of_ble_eq_true rfl) d_T_office_115 ⟨Nat.le_of_ble_eq_true rfl, Nat.le_of_ble_eq_true rfl⟩ (fun r90 h91 => ?_)
                obtain rfl : r90 = 1 := by rcases h91 with ⟨q1, q2⟩ | ⟨q1, q2⟩ <;> first | exact q1 | exact absurd rfl q2 | exact absurd q2 (by decide)
                refine lv_imul hx hb d_T_office_118 ?_
                refine lv_iadd hx hb d_T_office_119 ?_
                refine lv_bipush (v := 8) hx hb d_T_office_120 (by decide) ?_
                refine lv_iload hx hb d_T_office_122 (lv_at hl 0 rfl) ?_
                refine cp_S (n := 1) [.int 0] hC (t_T_bit l D cM cG cI cJ 0) ⟨kc_T_bit, kn_T, k_T_179, ks_T_bit⟩ (by decide +kernel) ⟨rfl, rfl, Nat.le_of_ble_eq_true rfl, Nat.le_of_ble_eq_true rfl⟩ x_0 (yt_Y D cM cG cI cJ) hY trivial rfl hl.1 rfl (Nat.le_of_ble_eq_true rfl) d_T_office_124 ⟨Nat.le_of_ble_eq_true rfl, Nat.le_of_ble_eq_true rfl⟩ (fun r92 h93 => ?_)
                obtain rfl : r92 = 0 := by rcases h93 with ⟨q1, q2⟩ | ⟨q1, q2⟩ <;> first | exact q1 | exact absurd rfl q2 | exact absurd q2 (by decide)
                refine lv_imul hx hb d_T_office_127 ?_
                refine lv_iadd hx hb d_T_office_128 ?_
                refine lv_bipush (v := 16) hx hb d_T_office_129 (by decide) ?_
                refine lv_iload hx hb d_T_office_131 (lv_at hl 0 rfl) ?_
                refine lv_if_eq (tgt := 147) hx hb d_T_office_133 (by decide) (fun _ => ?_) (fun q9 => absurd rfl q9)
                refine lv_iconst (v := 0) hx hb d_T_office_147 (by decide) ?_
                refine cp_S (n := 1) [.int 0] hC (t_T_bit l D cM cG cI cJ 0) ⟨kc_T_bit, kn_T, k_T_179, ks_T_bit⟩ (by decide +kernel) ⟨rfl, rfl, Nat.le_of_ble_eq_true rfl, Nat.le_of_ble_eq_true rfl⟩ x_0 (yt_Y D cM cG cI cJ) hY trivial rfl hl.1 rfl (Nat.le_of_ble_eq_true rfl) d_T_office_148 ⟨Nat.le_of_ble_eq_true rfl, Nat.le_of_ble_eq_true rfl⟩ (fun r94 h95 => ?_)
                obtain rfl : r94 = 0 := by rcases h95 with ⟨q1, q2⟩ | ⟨q1, q2⟩ <;> first | exact q1 | exact absurd rfl q2 | exact absurd q2 (by decide)
                refine lv_imul hx hb d_T_office_151 ?_
                refine lv_iadd hx hb d_T_office_152 ?_
                subst hAe
                have e_S : sp_of (off, nm, ng, now, F, R) (nI i) y = (0, ((((0 + (2 * 1)) + (4 * 1)) + (8 * 0)) + (16 * 0))) := by simp only [sp_of, hcl]; rw [if_pos ⟨hix, b6⟩]; simp only [bt_I]; rw [if_neg c62, if_pos ⟨c7, c65⟩, if_pos ⟨c7, c83⟩, if_neg c61, if_neg (fun q => c61 q.1)]
                refine vx_ret ?_
                refine W.widen (k := 1) (n := 6) (by decide) (by decide) ?_
                exact W.iret (v := ((((0 + (2 * 1)) + (4 * 1)) + (8 * 0)) + (16 * 0))) hx hb hr (fun t ht hW => ⟨⟨_, (), rfl, ⟨by rw [e_S], by rw [e_S]⟩, by rw [ht]; exact hP, hD⟩, hS.F ht⟩) hS.2.2 d_T_office_153
          · refine lv_iconst (v := 1) hx hb d_T_office_66 (by decide) ?_
            refine lv_goto (tgt := 71) hx hb d_T_office_67 (by decide) ?_
            refine cp_S (n := 1) [.int 1] hC (t_T_bit l D cM cG cI cJ 1) ⟨kc_T_bit, kn_T, k_T_179, ks_T_bit⟩ (by decide +kernel) ⟨rfl, rfl, Nat.le_of_ble_eq_true rfl, Nat.le_of_ble_eq_true rfl⟩ x_0 (yt_Y D cM cG cI cJ) hY trivial rfl hl.1 rfl (Nat.le_of_ble_eq_true rfl) d_T_office_71 ⟨Nat.le_of_ble_eq_true rfl, Nat.le_of_ble_eq_true rfl⟩ (fun r96 h97 => ?_)
            obtain rfl : r96 = 1 := by rcases h97 with ⟨q1, q2⟩ | ⟨q1, q2⟩ <;> first | exact q1 | exact absurd rfl q2 | exact absurd q2 (by decide)
            refine lv_iconst (v := 2) hx hb d_T_office_74 (by decide) ?_
            refine lv_iload hx hb d_T_office_75 (lv_at hl 1 rfl) ?_
            refine lv_if_eq (tgt := 91) hx hb d_T_office_77 (by decide) (fun q9 => absurd q9 (by decide)) (fun _ => ?_)
            refine lv_aload_n hx hb d_T_office_80 rfl (lv_at hl 2 rfl) ?_
            refine va_get (D := D) (C := R_V) (T := F_V) (N := 19) hx hb htw uw_V hown hK hP (i + 3) (mv_at hi) rfl 17 (by decide) (htw _ k_T_187) (fun _ h9 => h9) rfl d_T_office_81 ?_
            refine lv_if_eq (tgt := 91) hx hb d_T_office_84 (by decide) (fun c98 => ?_) (fun c98 => ?_)
            · refine lv_iconst (v := 0) hx hb d_T_office_91 (by decide) ?_
              refine cp_S (n := 1) [.int 0] hC (t_T_bit l D cM cG cI cJ 0) ⟨kc_T_bit, kn_T, k_T_179, ks_T_bit⟩ (by decide +kernel) ⟨rfl, rfl, Nat.le_of_ble_eq_true rfl, Nat.le_of_ble_eq_true rfl⟩ x_0 (yt_Y D cM cG cI cJ) hY trivial rfl hl.1 rfl (Nat.le_of_ble_eq_true rfl) d_T_office_92 ⟨Nat.le_of_ble_eq_true rfl, Nat.le_of_ble_eq_true rfl⟩ (fun r99 h100 => ?_)
              obtain rfl : r99 = 0 := by rcases h100 with ⟨q1, q2⟩ | ⟨q1, q2⟩ <;> first | exact q1 | exact absurd rfl q2 | exact absurd q2 (by decide)
              refine lv_imul hx hb d_T_office_95 ?_
              refine lv_iadd hx hb d_T_office_96 ?_
              refine lv_iconst (v := 4) hx hb d_T_office_97 (by decide) ?_
              refine lv_iload hx hb d_T_office_98 (lv_at hl 1 rfl) ?_
              refine lv_if_eq (tgt := 114) hx hb d_T_office_100 (by decide) (fun q9 => absurd q9 (by decide)) (fun _ => ?_)
              refine lv_aload_n hx hb d_T_office_103 rfl (lv_at hl 2 rfl) ?_
              refine va_get (D := D) (C := R_V) (T := F_V) (N := 19) hx hb htw uw_V hown hK hP (i + 3) (mv_at hi) rfl 18 (by decide) (htw _ k_T_190) (fun _ h9 => h9) rfl d_T_office_104 ?_
              refine lv_if_eq (tgt := 114) hx hb d_T_office_107 (by decide) (fun c101 => ?_) (fun c101 => ?_)
              · refine lv_iconst (v := 0) hx hb d_T_office_114 (by decide) ?_
                refine cp_S (n := 1) [.int 0] hC (t_T_bit l D cM cG cI cJ 0) ⟨kc_T_bit, kn_T, k_T_179, ks_T_bit⟩ (by decide +kernel) ⟨rfl, rfl, Nat.le_of_ble_eq_true rfl, Nat.le_of_ble_eq_true rfl⟩ x_0 (yt_Y D cM cG cI cJ) hY trivial rfl hl.1 rfl (Nat.le_of_ble_eq_true rfl) d_T_office_115 ⟨Nat.le_of_ble_eq_true rfl, Nat.le_of_ble_eq_true rfl⟩ (fun r102 h103 => ?_)
                obtain rfl : r102 = 0 := by rcases h103 with ⟨q1, q2⟩ | ⟨q1, q2⟩ <;> first | exact q1 | exact absurd rfl q2 | exact absurd q2 (by decide)
                refine lv_imul hx hb d_T_office_118 ?_
                refine lv_iadd hx hb d_T_office_119 ?_
                refine lv_bipush (v := 8) hx hb d_T_office_120 (by decide) ?_
                refine lv_iload hx hb d_T_office_122 (lv_at hl 0 rfl) ?_
                refine cp_S (n := 1) [.int 0] hC (t_T_bit l D cM cG cI cJ 0) ⟨kc_T_bit, kn_T, k_T_179, ks_T_bit⟩ (by decide +kernel) ⟨rfl, rfl, Nat.le_of_ble_eq_true rfl, Nat.le_of_ble_eq_true rfl⟩ x_0 (yt_Y D cM cG cI cJ) hY trivial rfl hl.1 rfl (Nat.le_of_ble_eq_true rfl) d_T_office_124 ⟨Nat.le_of_ble_eq_true rfl, Nat.le_of_ble_eq_true rfl⟩ (fun r104 h105 => ?_)
                obtain rfl : r104 = 0 := by rcases h105 with ⟨q1, q2⟩ | ⟨q1, q2⟩ <;> first | exact q1 | exact absurd rfl q2 | exact absurd q2 (by decide)
                refine lv_imul hx hb d_T_office_127 ?_
                refine lv_iadd hx hb d_T_office_128 ?_
                refine lv_bipush (v := 16) hx hb d_T_office_129 (by decide) ?_
                refine lv_iload hx hb d_T_office_131 (lv_at hl 0 rfl) ?_
                refine lv_if_eq (tgt := 147) hx hb d_T_office_133 (by decide) (fun _ => ?_) (fun q9 => absurd rfl q9)
                refine lv_iconst (v := 0) hx hb d_T_office_147 (by decide) ?_
                refine cp_S (n := 1) [.int 0] hC (t_T_bit l D cM cG cI cJ 0) ⟨kc_T_bit, kn_T, k_T_179, ks_T_bit⟩ (by decide +kernel) ⟨rfl, rfl, Nat.le_of_ble_eq_true rfl, Nat.le_of_ble_eq_true rfl⟩ x_0 (yt_Y D cM cG cI cJ) hY trivial rfl hl.1 rfl (Nat.le_of_ble_eq_true rfl) d_T_office_148 ⟨Nat.le_of_ble_eq_true rfl, Nat.le_of_ble_eq_true rfl⟩ (fun r106 h107 => ?_)
                obtain rfl : r106 = 0 := by rcases h107 with ⟨q1, q2⟩ | ⟨q1, q2⟩ <;> first | exact q1 | exact absurd rfl q2 | exact absurd q2 (by decide)
                refine lv_imul hx hb d_T_office_151 ?_
                refine lv_iadd hx hb d_T_office_152 ?_
                subst hAe
                have e_S : sp_of (off, nm, ng, now, F, R) (nI i) y = (0, ((((1 + (2 * 0)) + (4 * 0)) + (8 * 0)) + (16 * 0))) := by simp only [sp_of, hcl]; rw [if_pos ⟨hix, b6⟩]; simp only [bt_I]; rw [if_pos c62, if_neg (fun q => q.2 c98), if_neg (fun q => q.2 c101), if_neg c61, if_neg (fun q => c61 q.1)]
                refine vx_ret ?_
                refine W.widen (k := 1) (n := 6) (by decide) (by decide) ?_
                exact W.iret (v := ((((1 + (2 * 0)) + (4 * 0)) + (8 * 0)) + (16 * 0))) hx hb hr (fun t ht hW => ⟨⟨_, (), rfl, ⟨by rw [e_S], by rw [e_S]⟩, by rw [ht]; exact hP, hD⟩, hS.F ht⟩) hS.2.2 d_T_office_153
              · refine lv_iconst (v := 1) hx hb d_T_office_110 (by decide) ?_
                refine lv_goto (tgt := 115) hx hb d_T_office_111 (by decide) ?_
                refine cp_S (n := 1) [.int 1] hC (t_T_bit l D cM cG cI cJ 1) ⟨kc_T_bit, kn_T, k_T_179, ks_T_bit⟩ (by decide +kernel) ⟨rfl, rfl, Nat.le_of_ble_eq_true rfl, Nat.le_of_ble_eq_true rfl⟩ x_0 (yt_Y D cM cG cI cJ) hY trivial rfl hl.1 rfl (Nat.le_of_ble_eq_true rfl) d_T_office_115 ⟨Nat.le_of_ble_eq_true rfl, Nat.le_of_ble_eq_true rfl⟩ (fun r108 h109 => ?_)
                obtain rfl : r108 = 1 := by rcases h109 with ⟨q1, q2⟩ | ⟨q1, q2⟩ <;> first | exact q1 | exact absurd rfl q2 | exact absurd q2 (by decide)
                refine lv_imul hx hb d_T_office_118 ?_
                refine lv_iadd hx hb d_T_office_119 ?_
                refine lv_bipush (v := 8) hx hb d_T_office_120 (by decide) ?_
                refine lv_iload hx hb d_T_office_122 (lv_at hl 0 rfl) ?_
                refine cp_S (n := 1) [.int 0] hC (t_T_bit l D cM cG cI cJ 0) ⟨kc_T_bit, kn_T, k_T_179, ks_T_bit⟩ (by decide +kernel) ⟨rfl, rfl, Nat.le_of_ble_eq_true rfl, Nat.le_of_ble_eq_true rfl⟩ x_0 (yt_Y D cM cG cI cJ) hY trivial rfl hl.1 rfl (Nat.le_of_ble_eq_true rfl) d_T_office_124 ⟨Nat.le_of_ble_eq_true rfl, Nat.le_of_ble_eq_true rfl⟩ (fun r110 h111 => ?_)
                obtain rfl : r110 = 0 := by rcases h111 with ⟨q1, q2⟩ | ⟨q1, q2⟩ <;> first | exact q1 | exact absurd rfl q2 | exact absurd q2 (by decide)
                refine lv_imul hx hb d_T_office_127 ?_
                refine lv_iadd hx hb d_T_office_128 ?_
                refine lv_bipush (v := 16) hx hb d_T_office_129 (by decide) ?_
                refine lv_iload hx hb d_T_office_131 (lv_at hl 0 rfl) ?_
                refine lv_if_eq (tgt := 147) hx hb d_T_office_133 (by decide) (fun _ => ?_) (fun q9 => absurd rfl q9)
                refine lv_iconst (v := 0) hx hb d_T_office_147 (by decide) ?_
                refine cp_S (n := 1) [.int 0] hC (t_T_bit l D cM cG cI cJ 0) ⟨kc_T_bit, kn_T, k_T_179, ks_T_bit⟩ (by decide +kernel) ⟨rfl, rfl, Nat.le_of_ble_eq_true rfl, Nat.le_of_ble_eq_true rfl⟩ x_0 (yt_Y D cM cG cI cJ) hY trivial rfl hl.1 rfl (Nat.le_of_ble_eq_true rfl) d_T_office_148 ⟨Nat.le_of_ble_eq_true rfl, Nat.le_of_ble_eq_true rfl⟩ (fun r112 h113 => ?_)
                obtain rfl : r112 = 0 := by rcases h113 with ⟨q1, q2⟩ | ⟨q1, q2⟩ <;> first | exact q1 | exact absurd rfl q2 | exact absurd q2 (by decide)
                refine lv_imul hx hb d_T_office_151 ?_
                refine lv_iadd hx hb d_T_office_152 ?_
                subst hAe
                have e_S : sp_of (off, nm, ng, now, F, R) (nI i) y = (0, ((((1 + (2 * 0)) + (4 * 1)) + (8 * 0)) + (16 * 0))) := by simp only [sp_of, hcl]; rw [if_pos ⟨hix, b6⟩]; simp only [bt_I]; rw [if_pos c62, if_neg (fun q => q.2 c98), if_pos ⟨c7, c101⟩, if_neg c61, if_neg (fun q => c61 q.1)]
                refine vx_ret ?_
                refine W.widen (k := 1) (n := 6) (by decide) (by decide) ?_
                exact W.iret (v := ((((1 + (2 * 0)) + (4 * 1)) + (8 * 0)) + (16 * 0))) hx hb hr (fun t ht hW => ⟨⟨_, (), rfl, ⟨by rw [e_S], by rw [e_S]⟩, by rw [ht]; exact hP, hD⟩, hS.F ht⟩) hS.2.2 d_T_office_153
            · refine lv_iconst (v := 1) hx hb d_T_office_87 (by decide) ?_
              refine lv_goto (tgt := 92) hx hb d_T_office_88 (by decide) ?_
              refine cp_S (n := 1) [.int 1] hC (t_T_bit l D cM cG cI cJ 1) ⟨kc_T_bit, kn_T, k_T_179, ks_T_bit⟩ (by decide +kernel) ⟨rfl, rfl, Nat.le_of_ble_eq_true rfl, Nat.le_of_ble_eq_true rfl⟩ x_0 (yt_Y D cM cG cI cJ) hY trivial rfl hl.1 rfl (Nat.le_of_ble_eq_true rfl) d_T_office_92 ⟨Nat.le_of_ble_eq_true rfl, Nat.le_of_ble_eq_true rfl⟩ (fun r114 h115 => ?_)
              obtain rfl : r114 = 1 := by rcases h115 with ⟨q1, q2⟩ | ⟨q1, q2⟩ <;> first | exact q1 | exact absurd rfl q2 | exact absurd q2 (by decide)
              refine lv_imul hx hb d_T_office_95 ?_
              refine lv_iadd hx hb d_T_office_96 ?_
              refine lv_iconst (v := 4) hx hb d_T_office_97 (by decide) ?_
              refine lv_iload hx hb d_T_office_98 (lv_at hl 1 rfl) ?_
              refine lv_if_eq (tgt := 114) hx hb d_T_office_100 (by decide) (fun q9 => absurd q9 (by decide)) (fun _ => ?_)
              refine lv_aload_n hx hb d_T_office_103 rfl (lv_at hl 2 rfl) ?_
              refine va_get (D := D) (C := R_V) (T := F_V) (N := 19) hx hb htw uw_V hown hK hP (i + 3) (mv_at hi) rfl 18 (by decide) (htw _ k_T_190) (fun _ h9 => h9) rfl d_T_office_104 ?_
              refine lv_if_eq (tgt := 114) hx hb d_T_office_107 (by decide) (fun c116 => ?_) (fun c116 => ?_)
              · refine lv_iconst (v := 0) hx hb d_T_office_114 (by decide) ?_
                refine cp_S (n := 1) [.int 0] hC (t_T_bit l D cM cG cI cJ 0) ⟨kc_T_bit, kn_T, k_T_179, ks_T_bit⟩ (by decide +kernel) ⟨rfl, rfl, Nat.le_of_ble_eq_true rfl, Nat.le_of_ble_eq_true rfl⟩ x_0 (yt_Y D cM cG cI cJ) hY trivial rfl hl.1 rfl (Nat.le_of_ble_eq_true rfl) d_T_office_115 ⟨Nat.le_of_ble_eq_true rfl, Nat.le_of_ble_eq_true rfl⟩ (fun r117 h118 => ?_)
                obtain rfl : r117 = 0 := by rcases h118 with ⟨q1, q2⟩ | ⟨q1, q2⟩ <;> first | exact q1 | exact absurd rfl q2 | exact absurd q2 (by decide)
                refine lv_imul hx hb d_T_office_118 ?_
                refine lv_iadd hx hb d_T_office_119 ?_
                refine lv_bipush (v := 8) hx hb d_T_office_120 (by decide) ?_
                refine lv_iload hx hb d_T_office_122 (lv_at hl 0 rfl) ?_
                refine cp_S (n := 1) [.int 0] hC (t_T_bit l D cM cG cI cJ 0) ⟨kc_T_bit, kn_T, k_T_179, ks_T_bit⟩ (by decide +kernel) ⟨rfl, rfl, Nat.le_of_ble_eq_true rfl, Nat.le_of_ble_eq_true rfl⟩ x_0 (yt_Y D cM cG cI cJ) hY trivial rfl hl.1 rfl (Nat.le_of_ble_eq_true rfl) d_T_office_124 ⟨Nat.le_of_ble_eq_true rfl, Nat.le_of_ble_eq_true rfl⟩ (fun r119 h120 => ?_)
                obtain rfl : r119 = 0 := by rcases h120 with ⟨q1, q2⟩ | ⟨q1, q2⟩ <;> first | exact q1 | exact absurd rfl q2 | exact absurd q2 (by decide)
                refine lv_imul hx hb d_T_office_127 ?_
                refine lv_iadd hx hb d_T_office_128 ?_
                refine lv_bipush (v := 16) hx hb d_T_office_129 (by decide) ?_
                refine lv_iload hx hb d_T_office_131 (lv_at hl 0 rfl) ?_
                refine lv_if_eq (tgt := 147) hx hb d_T_office_133 (by decide) (fun _ => ?_) (fun q9 => absurd rfl q9)
                refine lv_iconst (v := 0) hx hb d_T_office_147 (by decide) ?_
                refine cp_S (n := 1) [.int 0] hC (t_T_bit l D cM cG cI cJ 0) ⟨kc_T_bit, kn_T, k_T_179, ks_T_bit⟩ (by decide +kernel) ⟨rfl, rfl, Nat.le_of_ble_eq_true rfl, Nat.le_of_ble_eq_true rfl⟩ x_0 (yt_Y D cM cG cI cJ) hY trivial rfl hl.1 rfl (Nat.le_of_ble_eq_true rfl) d_T_office_148 ⟨Nat.le_of_ble_eq_true rfl, Nat.le_of_ble_eq_true rfl⟩ (fun r121 h122 => ?_)
                obtain rfl : r121 = 0 := by rcases h122 with ⟨q1, q2⟩ | ⟨q1, q2⟩ <;> first | exact q1 | exact absurd rfl q2 | exact absurd q2 (by decide)
                refine lv_imul hx hb d_T_office_151 ?_
                refine lv_iadd hx hb d_T_office_152 ?_
                subst hAe
                have e_S : sp_of (off, nm, ng, now, F, R) (nI i) y = (0, ((((1 + (2 * 1)) + (4 * 0)) + (8 * 0)) + (16 * 0))) := by simp only [sp_of, hcl]; rw [if_pos ⟨hix, b6⟩]; simp only [bt_I]; rw [if_pos c62, if_pos ⟨c7, c98⟩, if_neg (fun q => q.2 c116), if_neg c61, if_neg (fun q => c61 q.1)]
                refine vx_ret ?_
                refine W.widen (k := 1) (n := 6) (by decide) (by decide) ?_
                exact W.iret (v := ((((1 + (2 * 1)) + (4 * 0)) + (8 * 0)) + (16 * 0))) hx hb hr (fun t ht hW => ⟨⟨_, (), rfl, ⟨by rw [e_S], by rw [e_S]⟩, by rw [ht]; exact hP, hD⟩, hS.F ht⟩) hS.2.2 d_T_office_153
              · refine lv_iconst (v := 1) hx hb d_T_office_110 (by decide) ?_
                refine lv_goto (tgt := 115) hx hb d_T_office_111 (by decide) ?_
                refine cp_S (n := 1) [.int 1] hC (t_T_bit l D cM cG cI cJ 1) ⟨kc_T_bit, kn_T, k_T_179, ks_T_bit⟩ (by decide +kernel) ⟨rfl, rfl, Nat.le_of_ble_eq_true rfl, Nat.le_of_ble_eq_true rfl⟩ x_0 (yt_Y D cM cG cI cJ) hY trivial rfl hl.1 rfl (Nat.le_of_ble_eq_true rfl) d_T_office_115 ⟨Nat.le_of_ble_eq_true rfl, Nat.le_of_ble_eq_true rfl⟩ (fun r123 h124 => ?_)
                obtain rfl : r123 = 1 := by rcases h124 with ⟨q1, q2⟩ | ⟨q1, q2⟩ <;> first | exact q1 | exact absurd rfl q2 | exact absurd q2 (by decide)
                refine lv_imul hx hb d_T_office_118 ?_
                refine lv_iadd hx hb d_T_office_119 ?_
                refine lv_bipush (v := 8) hx hb d_T_office_120 (by decide) ?_
                refine lv_iload hx hb d_T_office_122 (lv_at hl 0 rfl) ?_
                refine cp_S (n := 1) [.int 0] hC (t_T_bit l D cM cG cI cJ 0) ⟨kc_T_bit, kn_T, k_T_179, ks_T_bit⟩ (by decide +kernel) ⟨rfl, rfl, Nat.le_of_ble_eq_true rfl, Nat.le_of_ble_eq_true rfl⟩ x_0 (yt_Y D cM cG cI cJ) hY trivial rfl hl.1 rfl (Nat.le_of_ble_eq_true rfl) d_T_office_124 ⟨Nat.le_of_ble_eq_true rfl, Nat.le_of_ble_eq_true rfl⟩ (fun r125 h126 => ?_)
                obtain rfl : r125 = 0 := by rcases h126 with ⟨q1, q2⟩ | ⟨q1, q2⟩ <;> first | exact q1 | exact absurd rfl q2 | exact absurd q2 (by decide)
                refine lv_imul hx hb d_T_office_127 ?_
                refine lv_iadd hx hb d_T_office_128 ?_
                refine lv_bipush (v := 16) hx hb d_T_office_129 (by decide) ?_
                refine lv_iload hx hb d_T_office_131 (lv_at hl 0 rfl) ?_
                refine lv_if_eq (tgt := 147) hx hb d_T_office_133 (by decide) (fun _ => ?_) (fun q9 => absurd rfl q9)
                refine lv_iconst (v := 0) hx hb d_T_office_147 (by decide) ?_
                refine cp_S (n := 1) [.int 0] hC (t_T_bit l D cM cG cI cJ 0) ⟨kc_T_bit, kn_T, k_T_179, ks_T_bit⟩ (by decide +kernel) ⟨rfl, rfl, Nat.le_of_ble_eq_true rfl, Nat.le_of_ble_eq_true rfl⟩ x_0 (yt_Y D cM cG cI cJ) hY trivial rfl hl.1 rfl (Nat.le_of_ble_eq_true rfl) d_T_office_148 ⟨Nat.le_of_ble_eq_true rfl, Nat.le_of_ble_eq_true rfl⟩ (fun r127 h128 => ?_)
                obtain rfl : r127 = 0 := by rcases h128 with ⟨q1, q2⟩ | ⟨q1, q2⟩ <;> first | exact q1 | exact absurd rfl q2 | exact absurd q2 (by decide)
                refine lv_imul hx hb d_T_office_151 ?_
                refine lv_iadd hx hb d_T_office_152 ?_
                subst hAe
                have e_S : sp_of (off, nm, ng, now, F, R) (nI i) y = (0, ((((1 + (2 * 1)) + (4 * 1)) + (8 * 0)) + (16 * 0))) := by simp only [sp_of, hcl]; rw [if_pos ⟨hix, b6⟩]; simp only [bt_I]; rw [if_pos c62, if_pos ⟨c7, c98⟩, if_pos ⟨c7, c116⟩, if_neg c61, if_neg (fun q => c61 q.1)]
                refine vx_ret ?_
                refine W.widen (k := 1) (n := 6) (by decide) (by decide) ?_
                exact W.iret (v := ((((1 + (2 * 1)) + (4 * 1)) + (8 * 0)) + (16 * 0))) hx hb hr (fun t ht hW => ⟨⟨_, (), rfl, ⟨by rw [e_S], by rw [e_S]⟩, by rw [ht]; exact hP, hD⟩, hS.F ht⟩) hS.2.2 d_T_office_153
        · refine lv_iconst (v := 1) hx hb d_T_office_51 (by decide) ?_
          refine lv_goto (tgt := 56) hx hb d_T_office_52 (by decide) ?_
          refine lv_istore (lv' := [(5, .int 1), (4, .int 1), (3, .ref (pm i)), (0, .ref o), (1, .int (nI i)), (2, .int y)]) hx hb d_T_office_56 hl (by decide) rfl (fun ls hl => ?_)
          refine lv_iload_n hx hb d_T_office_58 rfl (lv_at hl 5 rfl) ?_
          refine lv_aload_n hx hb d_T_office_59 rfl (lv_at hl 2 rfl) ?_
          refine va_get (D := D) (C := R_V) (T := F_V) (N := 19) hx hb htw uw_V hown hK hP (i + 3) (mv_at hi) rfl 0 (by decide) (htw _ k_T_76) (fun _ h9 => h9) rfl d_T_office_60 ?_
          refine lv_icmp_ne (tgt := 70) hx hb d_T_office_63 (by decide) (fun c129 => ?_) (fun c129 => ?_)
          · refine lv_iconst (v := 0) hx hb d_T_office_70 (by decide) ?_
            refine cp_S (n := 1) [.int 0] hC (t_T_bit l D cM cG cI cJ 0) ⟨kc_T_bit, kn_T, k_T_179, ks_T_bit⟩ (by decide +kernel) ⟨rfl, rfl, Nat.le_of_ble_eq_true rfl, Nat.le_of_ble_eq_true rfl⟩ x_0 (yt_Y D cM cG cI cJ) hY trivial rfl hl.1 rfl (Nat.le_of_ble_eq_true rfl) d_T_office_71 ⟨Nat.le_of_ble_eq_true rfl, Nat.le_of_ble_eq_true rfl⟩ (fun r130 h131 => ?_)
            obtain rfl : r130 = 0 := by rcases h131 with ⟨q1, q2⟩ | ⟨q1, q2⟩ <;> first | exact q1 | exact absurd rfl q2 | exact absurd q2 (by decide)
            refine lv_iconst (v := 2) hx hb d_T_office_74 (by decide) ?_
            refine lv_iload hx hb d_T_office_75 (lv_at hl 1 rfl) ?_
            refine lv_if_eq (tgt := 91) hx hb d_T_office_77 (by decide) (fun q9 => absurd q9 (by decide)) (fun _ => ?_)
            refine lv_aload_n hx hb d_T_office_80 rfl (lv_at hl 2 rfl) ?_
            refine va_get (D := D) (C := R_V) (T := F_V) (N := 19) hx hb htw uw_V hown hK hP (i + 3) (mv_at hi) rfl 17 (by decide) (htw _ k_T_187) (fun _ h9 => h9) rfl d_T_office_81 ?_
            refine lv_if_eq (tgt := 91) hx hb d_T_office_84 (by decide) (fun c132 => ?_) (fun c132 => ?_)
            · refine lv_iconst (v := 0) hx hb d_T_office_91 (by decide) ?_
              refine cp_S (n := 1) [.int 0] hC (t_T_bit l D cM cG cI cJ 0) ⟨kc_T_bit, kn_T, k_T_179, ks_T_bit⟩ (by decide +kernel) ⟨rfl, rfl, Nat.le_of_ble_eq_true rfl, Nat.le_of_ble_eq_true rfl⟩ x_0 (yt_Y D cM cG cI cJ) hY trivial rfl hl.1 rfl (Nat.le_of_ble_eq_true rfl) d_T_office_92 ⟨Nat.le_of_ble_eq_true rfl, Nat.le_of_ble_eq_true rfl⟩ (fun r133 h134 => ?_)
              obtain rfl : r133 = 0 := by rcases h134 with ⟨q1, q2⟩ | ⟨q1, q2⟩ <;> first | exact q1 | exact absurd rfl q2 | exact absurd q2 (by decide)
              refine lv_imul hx hb d_T_office_95 ?_
              refine lv_iadd hx hb d_T_office_96 ?_
              refine lv_iconst (v := 4) hx hb d_T_office_97 (by decide) ?_
              refine lv_iload hx hb d_T_office_98 (lv_at hl 1 rfl) ?_
              refine lv_if_eq (tgt := 114) hx hb d_T_office_100 (by decide) (fun q9 => absurd q9 (by decide)) (fun _ => ?_)
              refine lv_aload_n hx hb d_T_office_103 rfl (lv_at hl 2 rfl) ?_
              refine va_get (D := D) (C := R_V) (T := F_V) (N := 19) hx hb htw uw_V hown hK hP (i + 3) (mv_at hi) rfl 18 (by decide) (htw _ k_T_190) (fun _ h9 => h9) rfl d_T_office_104 ?_
              refine lv_if_eq (tgt := 114) hx hb d_T_office_107 (by decide) (fun c135 => ?_) (fun c135 => ?_)
              · refine lv_iconst (v := 0) hx hb d_T_office_114 (by decide) ?_
                refine cp_S (n := 1) [.int 0] hC (t_T_bit l D cM cG cI cJ 0) ⟨kc_T_bit, kn_T, k_T_179, ks_T_bit⟩ (by decide +kernel) ⟨rfl, rfl, Nat.le_of_ble_eq_true rfl, Nat.le_of_ble_eq_true rfl⟩ x_0 (yt_Y D cM cG cI cJ) hY trivial rfl hl.1 rfl (Nat.le_of_ble_eq_true rfl) d_T_office_115 ⟨Nat.le_of_ble_eq_true rfl, Nat.le_of_ble_eq_true rfl⟩ (fun r136 h137 => ?_)
                obtain rfl : r136 = 0 := by rcases h137 with ⟨q1, q2⟩ | ⟨q1, q2⟩ <;> first | exact q1 | exact absurd rfl q2 | exact absurd q2 (by decide)
                refine lv_imul hx hb d_T_office_118 ?_
                refine lv_iadd hx hb d_T_office_119 ?_
                refine lv_bipush (v := 8) hx hb d_T_office_120 (by decide) ?_
                refine lv_iload hx hb d_T_office_122 (lv_at hl 0 rfl) ?_
                refine cp_S (n := 1) [.int 1] hC (t_T_bit l D cM cG cI cJ 1) ⟨kc_T_bit, kn_T, k_T_179, ks_T_bit⟩ (by decide +kernel) ⟨rfl, rfl, Nat.le_of_ble_eq_true rfl, Nat.le_of_ble_eq_true rfl⟩ x_0 (yt_Y D cM cG cI cJ) hY trivial rfl hl.1 rfl (Nat.le_of_ble_eq_true rfl) d_T_office_124 ⟨Nat.le_of_ble_eq_true rfl, Nat.le_of_ble_eq_true rfl⟩ (fun r138 h139 => ?_)
                obtain rfl : r138 = 1 := by rcases h139 with ⟨q1, q2⟩ | ⟨q1, q2⟩ <;> first | exact q1 | exact absurd rfl q2 | exact absurd q2 (by decide)
                refine lv_imul hx hb d_T_office_127 ?_
                refine lv_iadd hx hb d_T_office_128 ?_
                refine lv_bipush (v := 16) hx hb d_T_office_129 (by decide) ?_
                refine lv_iload hx hb d_T_office_131 (lv_at hl 0 rfl) ?_
                refine lv_if_eq (tgt := 147) hx hb d_T_office_133 (by decide) (fun q9 => absurd q9 (by decide)) (fun _ => ?_)
                refine lv_aload_n hx hb d_T_office_136 rfl (lv_at hl 2 rfl) ?_
                refine cp_V (n := 0) [] hC (t_V_wereControlled l D cM cG cI cJ (pm i) F i) ⟨kc_V_wereControlled, kn_V, k_T_104, ki_V_wereControlled, kv_V_wereControlled⟩ (by decide +kernel) ⟨rfl, rfl, Nat.le_of_ble_eq_true rfl, Nat.le_of_ble_eq_true rfl⟩ x_0 (yt_Y D cM cG cI cJ) hY (wk_1 hP (mv_at hi)) (va_recv hK hP (ci := 1) (q0 := (i + 3)) rfl (mv_at hi)) rfl hl.1 rfl (Nat.le_of_ble_eq_true rfl) d_T_office_137 ⟨Nat.le_of_ble_eq_true rfl, Nat.le_of_ble_eq_true rfl⟩ (fun r140 h141 => ?_)
                rcases h141 with ⟨rfl, b142⟩ | ⟨rfl, b142⟩
                · have b142 : ¬ (F 9 i) = -1 := b142
                  refine lv_if_eq (tgt := 147) hx hb d_T_office_140 (by decide) (fun q9 => absurd q9 (by decide)) (fun _ => ?_)
                  refine lv_iconst (v := 1) hx hb d_T_office_143 (by decide) ?_
                  refine lv_goto (tgt := 148) hx hb d_T_office_144 (by decide) ?_
                  refine cp_S (n := 1) [.int 1] hC (t_T_bit l D cM cG cI cJ 1) ⟨kc_T_bit, kn_T, k_T_179, ks_T_bit⟩ (by decide +kernel) ⟨rfl, rfl, Nat.le_of_ble_eq_true rfl, Nat.le_of_ble_eq_true rfl⟩ x_0 (yt_Y D cM cG cI cJ) hY trivial rfl hl.1 rfl (Nat.le_of_ble_eq_true rfl) d_T_office_148 ⟨Nat.le_of_ble_eq_true rfl, Nat.le_of_ble_eq_true rfl⟩ (fun r143 h144 => ?_)
                  obtain rfl : r143 = 1 := by rcases h144 with ⟨q1, q2⟩ | ⟨q1, q2⟩ <;> first | exact q1 | exact absurd rfl q2 | exact absurd q2 (by decide)
                  refine lv_imul hx hb d_T_office_151 ?_
                  refine lv_iadd hx hb d_T_office_152 ?_
                  subst hAe
                  have e_S : sp_of (off, nm, ng, now, F, R) (nI i) y = (0, ((((0 + (2 * 0)) + (4 * 0)) + (8 * 1)) + (16 * 1))) := by simp only [sp_of, hcl]; rw [if_pos ⟨hix, b6⟩]; simp only [bt_I]; rw [if_neg c129, if_neg (fun q => q.2 c132), if_neg (fun q => q.2 c135), if_pos c61, if_pos ⟨c61, b142⟩]
                  refine vx_ret ?_
                  refine W.widen (k := 1) (n := 6) (by decide) (by decide) ?_
                  exact W.iret (v := ((((0 + (2 * 0)) + (4 * 0)) + (8 * 1)) + (16 * 1))) hx hb hr (fun t ht hW => ⟨⟨_, (), rfl, ⟨by rw [e_S], by rw [e_S]⟩, by rw [ht]; exact hP, hD⟩, hS.F ht⟩) hS.2.2 d_T_office_153
                · have b142 : (F 9 i) = -1 := b142
                  refine lv_if_eq (tgt := 147) hx hb d_T_office_140 (by decide) (fun _ => ?_) (fun q9 => absurd rfl q9)
                  refine lv_iconst (v := 0) hx hb d_T_office_147 (by decide) ?_
                  refine cp_S (n := 1) [.int 0] hC (t_T_bit l D cM cG cI cJ 0) ⟨kc_T_bit, kn_T, k_T_179, ks_T_bit⟩ (by decide +kernel) ⟨rfl, rfl, Nat.le_of_ble_eq_true rfl, Nat.le_of_ble_eq_true rfl⟩ x_0 (yt_Y D cM cG cI cJ) hY trivial rfl hl.1 rfl (Nat.le_of_ble_eq_true rfl) d_T_office_148 ⟨Nat.le_of_ble_eq_true rfl, Nat.le_of_ble_eq_true rfl⟩ (fun r145 h146 => ?_)
                  obtain rfl : r145 = 0 := by rcases h146 with ⟨q1, q2⟩ | ⟨q1, q2⟩ <;> first | exact q1 | exact absurd rfl q2 | exact absurd q2 (by decide)
                  refine lv_imul hx hb d_T_office_151 ?_
                  refine lv_iadd hx hb d_T_office_152 ?_
                  subst hAe
                  have e_S : sp_of (off, nm, ng, now, F, R) (nI i) y = (0, ((((0 + (2 * 0)) + (4 * 0)) + (8 * 1)) + (16 * 0))) := by simp only [sp_of, hcl]; rw [if_pos ⟨hix, b6⟩]; simp only [bt_I]; rw [if_neg c129, if_neg (fun q => q.2 c132), if_neg (fun q => q.2 c135), if_pos c61, if_neg (fun q => q.2 b142)]
                  refine vx_ret ?_
                  refine W.widen (k := 1) (n := 6) (by decide) (by decide) ?_
                  exact W.iret (v := ((((0 + (2 * 0)) + (4 * 0)) + (8 * 1)) + (16 * 0))) hx hb hr (fun t ht hW => ⟨⟨_, (), rfl, ⟨by rw [e_S], by rw [e_S]⟩, by rw [ht]; exact hP, hD⟩, hS.F ht⟩) hS.2.2 d_T_office_153
              · refine lv_iconst (v := 1) hx hb d_T_office_110 (by decide) ?_
                refine lv_goto (tgt := 115) hx hb d_T_office_111 (by decide) ?_
                refine cp_S (n := 1) [.int 1] hC (t_T_bit l D cM cG cI cJ 1) ⟨kc_T_bit, kn_T, k_T_179, ks_T_bit⟩ (by decide +kernel) ⟨rfl, rfl, Nat.le_of_ble_eq_true rfl, Nat.le_of_ble_eq_true rfl⟩ x_0 (yt_Y D cM cG cI cJ) hY trivial rfl hl.1 rfl (Nat.le_of_ble_eq_true rfl) d_T_office_115 ⟨Nat.le_of_ble_eq_true rfl, Nat.le_of_ble_eq_true rfl⟩ (fun r147 h148 => ?_)
                obtain rfl : r147 = 1 := by rcases h148 with ⟨q1, q2⟩ | ⟨q1, q2⟩ <;> first | exact q1 | exact absurd rfl q2 | exact absurd q2 (by decide)
                refine lv_imul hx hb d_T_office_118 ?_
                refine lv_iadd hx hb d_T_office_119 ?_
                refine lv_bipush (v := 8) hx hb d_T_office_120 (by decide) ?_
                refine lv_iload hx hb d_T_office_122 (lv_at hl 0 rfl) ?_
                refine cp_S (n := 1) [.int 1] hC (t_T_bit l D cM cG cI cJ 1) ⟨kc_T_bit, kn_T, k_T_179, ks_T_bit⟩ (by decide +kernel) ⟨rfl, rfl, Nat.le_of_ble_eq_true rfl, Nat.le_of_ble_eq_true rfl⟩ x_0 (yt_Y D cM cG cI cJ) hY trivial rfl hl.1 rfl (Nat.le_of_ble_eq_true rfl) d_T_office_124 ⟨Nat.le_of_ble_eq_true rfl, Nat.le_of_ble_eq_true rfl⟩ (fun r149 h150 => ?_)
                obtain rfl : r149 = 1 := by rcases h150 with ⟨q1, q2⟩ | ⟨q1, q2⟩ <;> first | exact q1 | exact absurd rfl q2 | exact absurd q2 (by decide)
                refine lv_imul hx hb d_T_office_127 ?_
                refine lv_iadd hx hb d_T_office_128 ?_
                refine lv_bipush (v := 16) hx hb d_T_office_129 (by decide) ?_
                refine lv_iload hx hb d_T_office_131 (lv_at hl 0 rfl) ?_
                refine lv_if_eq (tgt := 147) hx hb d_T_office_133 (by decide) (fun q9 => absurd q9 (by decide)) (fun _ => ?_)
                refine lv_aload_n hx hb d_T_office_136 rfl (lv_at hl 2 rfl) ?_
                refine cp_V (n := 0) [] hC (t_V_wereControlled l D cM cG cI cJ (pm i) F i) ⟨kc_V_wereControlled, kn_V, k_T_104, ki_V_wereControlled, kv_V_wereControlled⟩ (by decide +kernel) ⟨rfl, rfl, Nat.le_of_ble_eq_true rfl, Nat.le_of_ble_eq_true rfl⟩ x_0 (yt_Y D cM cG cI cJ) hY (wk_1 hP (mv_at hi)) (va_recv hK hP (ci := 1) (q0 := (i + 3)) rfl (mv_at hi)) rfl hl.1 rfl (Nat.le_of_ble_eq_true rfl) d_T_office_137 ⟨Nat.le_of_ble_eq_true rfl, Nat.le_of_ble_eq_true rfl⟩ (fun r151 h152 => ?_)
                rcases h152 with ⟨rfl, b153⟩ | ⟨rfl, b153⟩
                · have b153 : ¬ (F 9 i) = -1 := b153
                  refine lv_if_eq (tgt := 147) hx hb d_T_office_140 (by decide) (fun q9 => absurd q9 (by decide)) (fun _ => ?_)
                  refine lv_iconst (v := 1) hx hb d_T_office_143 (by decide) ?_
                  refine lv_goto (tgt := 148) hx hb d_T_office_144 (by decide) ?_
                  refine cp_S (n := 1) [.int 1] hC (t_T_bit l D cM cG cI cJ 1) ⟨kc_T_bit, kn_T, k_T_179, ks_T_bit⟩ (by decide +kernel) ⟨rfl, rfl, Nat.le_of_ble_eq_true rfl, Nat.le_of_ble_eq_true rfl⟩ x_0 (yt_Y D cM cG cI cJ) hY trivial rfl hl.1 rfl (Nat.le_of_ble_eq_true rfl) d_T_office_148 ⟨Nat.le_of_ble_eq_true rfl, Nat.le_of_ble_eq_true rfl⟩ (fun r154 h155 => ?_)
                  obtain rfl : r154 = 1 := by rcases h155 with ⟨q1, q2⟩ | ⟨q1, q2⟩ <;> first | exact q1 | exact absurd rfl q2 | exact absurd q2 (by decide)
                  refine lv_imul hx hb d_T_office_151 ?_
                  refine lv_iadd hx hb d_T_office_152 ?_
                  subst hAe
                  have e_S : sp_of (off, nm, ng, now, F, R) (nI i) y = (0, ((((0 + (2 * 0)) + (4 * 1)) + (8 * 1)) + (16 * 1))) := by simp only [sp_of, hcl]; rw [if_pos ⟨hix, b6⟩]; simp only [bt_I]; rw [if_neg c129, if_neg (fun q => q.2 c132), if_pos ⟨c7, c135⟩, if_pos c61, if_pos ⟨c61, b153⟩]
                  refine vx_ret ?_
                  refine W.widen (k := 1) (n := 6) (by decide) (by decide) ?_
                  exact W.iret (v := ((((0 + (2 * 0)) + (4 * 1)) + (8 * 1)) + (16 * 1))) hx hb hr (fun t ht hW => ⟨⟨_, (), rfl, ⟨by rw [e_S], by rw [e_S]⟩, by rw [ht]; exact hP, hD⟩, hS.F ht⟩) hS.2.2 d_T_office_153
                · have b153 : (F 9 i) = -1 := b153
                  refine lv_if_eq (tgt := 147) hx hb d_T_office_140 (by decide) (fun _ => ?_) (fun q9 => absurd rfl q9)
                  refine lv_iconst (v := 0) hx hb d_T_office_147 (by decide) ?_
                  refine cp_S (n := 1) [.int 0] hC (t_T_bit l D cM cG cI cJ 0) ⟨kc_T_bit, kn_T, k_T_179, ks_T_bit⟩ (by decide +kernel) ⟨rfl, rfl, Nat.le_of_ble_eq_true rfl, Nat.le_of_ble_eq_true rfl⟩ x_0 (yt_Y D cM cG cI cJ) hY trivial rfl hl.1 rfl (Nat.le_of_ble_eq_true rfl) d_T_office_148 ⟨Nat.le_of_ble_eq_true rfl, Nat.le_of_ble_eq_true rfl⟩ (fun r156 h157 => ?_)
                  obtain rfl : r156 = 0 := by rcases h157 with ⟨q1, q2⟩ | ⟨q1, q2⟩ <;> first | exact q1 | exact absurd rfl q2 | exact absurd q2 (by decide)
                  refine lv_imul hx hb d_T_office_151 ?_
                  refine lv_iadd hx hb d_T_office_152 ?_
                  subst hAe
                  have e_S : sp_of (off, nm, ng, now, F, R) (nI i) y = (0, ((((0 + (2 * 0)) + (4 * 1)) + (8 * 1)) + (16 * 0))) := by simp only [sp_of, hcl]; rw [if_pos ⟨hix, b6⟩]; simp only [bt_I]; rw [if_neg c129, if_neg (fun q => q.2 c132), if_pos ⟨c7, c135⟩, if_pos c61, if_neg (fun q => q.2 b153)]
                  refine vx_ret ?_
                  refine W.widen (k := 1) (n := 6) (by decide) (by decide) ?_
                  exact W.iret (v := ((((0 + (2 * 0)) + (4 * 1)) + (8 * 1)) + (16 * 0))) hx hb hr (fun t ht hW => ⟨⟨_, (), rfl, ⟨by rw [e_S], by rw [e_S]⟩, by rw [ht]; exact hP, hD⟩, hS.F ht⟩) hS.2.2 d_T_office_153
            · refine lv_iconst (v := 1) hx hb d_T_office_87 (by decide) ?_
              refine lv_goto (tgt := 92) hx hb d_T_office_88 (by decide) ?_
              refine cp_S (n := 1) [.int 1] hC (t_T_bit l D cM cG cI cJ 1) ⟨kc_T_bit, kn_T, k_T_179, ks_T_bit⟩ (by decide +kernel) ⟨rfl, rfl, Nat.le_of_ble_eq_true rfl, Nat.le_of_ble_eq_true rfl⟩ x_0 (yt_Y D cM cG cI cJ) hY trivial rfl hl.1 rfl (Nat.le_of_ble_eq_true rfl) d_T_office_92 ⟨Nat.le_of_ble_eq_true rfl, Nat.le_of_ble_eq_true rfl⟩ (fun r158 h159 => ?_)
              obtain rfl : r158 = 1 := by rcases h159 with ⟨q1, q2⟩ | ⟨q1, q2⟩ <;> first | exact q1 | exact absurd rfl q2 | exact absurd q2 (by decide)
              refine lv_imul hx hb d_T_office_95 ?_
              refine lv_iadd hx hb d_T_office_96 ?_
              refine lv_iconst (v := 4) hx hb d_T_office_97 (by decide) ?_
              refine lv_iload hx hb d_T_office_98 (lv_at hl 1 rfl) ?_
              refine lv_if_eq (tgt := 114) hx hb d_T_office_100 (by decide) (fun q9 => absurd q9 (by decide)) (fun _ => ?_)
              refine lv_aload_n hx hb d_T_office_103 rfl (lv_at hl 2 rfl) ?_
              refine va_get (D := D) (C := R_V) (T := F_V) (N := 19) hx hb htw uw_V hown hK hP (i + 3) (mv_at hi) rfl 18 (by decide) (htw _ k_T_190) (fun _ h9 => h9) rfl d_T_office_104 ?_
              refine lv_if_eq (tgt := 114) hx hb d_T_office_107 (by decide) (fun c160 => ?_) (fun c160 => ?_)
              · refine lv_iconst (v := 0) hx hb d_T_office_114 (by decide) ?_
                refine cp_S (n := 1) [.int 0] hC (t_T_bit l D cM cG cI cJ 0) ⟨kc_T_bit, kn_T, k_T_179, ks_T_bit⟩ (by decide +kernel) ⟨rfl, rfl, Nat.le_of_ble_eq_true rfl, Nat.le_of_ble_eq_true rfl⟩ x_0 (yt_Y D cM cG cI cJ) hY trivial rfl hl.1 rfl (Nat.le_of_ble_eq_true rfl) d_T_office_115 ⟨Nat.le_of_ble_eq_true rfl, Nat.le_of_ble_eq_true rfl⟩ (fun r161 h162 => ?_)
                obtain rfl : r161 = 0 := by rcases h162 with ⟨q1, q2⟩ | ⟨q1, q2⟩ <;> first | exact q1 | exact absurd rfl q2 | exact absurd q2 (by decide)
                refine lv_imul hx hb d_T_office_118 ?_
                refine lv_iadd hx hb d_T_office_119 ?_
                refine lv_bipush (v := 8) hx hb d_T_office_120 (by decide) ?_
                refine lv_iload hx hb d_T_office_122 (lv_at hl 0 rfl) ?_
                refine cp_S (n := 1) [.int 1] hC (t_T_bit l D cM cG cI cJ 1) ⟨kc_T_bit, kn_T, k_T_179, ks_T_bit⟩ (by decide +kernel) ⟨rfl, rfl, Nat.le_of_ble_eq_true rfl, Nat.le_of_ble_eq_true rfl⟩ x_0 (yt_Y D cM cG cI cJ) hY trivial rfl hl.1 rfl (Nat.le_of_ble_eq_true rfl) d_T_office_124 ⟨Nat.le_of_ble_eq_true rfl, Nat.le_of_ble_eq_true rfl⟩ (fun r163 h164 => ?_)
                obtain rfl : r163 = 1 := by rcases h164 with ⟨q1, q2⟩ | ⟨q1, q2⟩ <;> first | exact q1 | exact absurd rfl q2 | exact absurd q2 (by decide)
                refine lv_imul hx hb d_T_office_127 ?_
                refine lv_iadd hx hb d_T_office_128 ?_
                refine lv_bipush (v := 16) hx hb d_T_office_129 (by decide) ?_
                refine lv_iload hx hb d_T_office_131 (lv_at hl 0 rfl) ?_
                refine lv_if_eq (tgt := 147) hx hb d_T_office_133 (by decide) (fun q9 => absurd q9 (by decide)) (fun _ => ?_)
                refine lv_aload_n hx hb d_T_office_136 rfl (lv_at hl 2 rfl) ?_
                refine cp_V (n := 0) [] hC (t_V_wereControlled l D cM cG cI cJ (pm i) F i) ⟨kc_V_wereControlled, kn_V, k_T_104, ki_V_wereControlled, kv_V_wereControlled⟩ (by decide +kernel) ⟨rfl, rfl, Nat.le_of_ble_eq_true rfl, Nat.le_of_ble_eq_true rfl⟩ x_0 (yt_Y D cM cG cI cJ) hY (wk_1 hP (mv_at hi)) (va_recv hK hP (ci := 1) (q0 := (i + 3)) rfl (mv_at hi)) rfl hl.1 rfl (Nat.le_of_ble_eq_true rfl) d_T_office_137 ⟨Nat.le_of_ble_eq_true rfl, Nat.le_of_ble_eq_true rfl⟩ (fun r165 h166 => ?_)
                rcases h166 with ⟨rfl, b167⟩ | ⟨rfl, b167⟩
                · have b167 : ¬ (F 9 i) = -1 := b167
                  refine lv_if_eq (tgt := 147) hx hb d_T_office_140 (by decide) (fun q9 => absurd q9 (by decide)) (fun _ => ?_)
                  refine lv_iconst (v := 1) hx hb d_T_office_143 (by decide) ?_
                  refine lv_goto (tgt := 148) hx hb d_T_office_144 (by decide) ?_
                  refine cp_S (n := 1) [.int 1] hC (t_T_bit l D cM cG cI cJ 1) ⟨kc_T_bit, kn_T, k_T_179, ks_T_bit⟩ (by decide +kernel) ⟨rfl, rfl, Nat.le_of_ble_eq_true rfl, Nat.le_of_ble_eq_true rfl⟩ x_0 (yt_Y D cM cG cI cJ) hY trivial rfl hl.1 rfl (Nat.le_of_ble_eq_true rfl) d_T_office_148 ⟨Nat.le_of_ble_eq_true rfl, Nat.le_of_ble_eq_true rfl⟩ (fun r168 h169 => ?_)
                  obtain rfl : r168 = 1 := by rcases h169 with ⟨q1, q2⟩ | ⟨q1, q2⟩ <;> first | exact q1 | exact absurd rfl q2 | exact absurd q2 (by decide)
                  refine lv_imul hx hb d_T_office_151 ?_
                  refine lv_iadd hx hb d_T_office_152 ?_
                  subst hAe
                  have e_S : sp_of (off, nm, ng, now, F, R) (nI i) y = (0, ((((0 + (2 * 1)) + (4 * 0)) + (8 * 1)) + (16 * 1))) := by simp only [sp_of, hcl]; rw [if_pos ⟨hix, b6⟩]; simp only [bt_I]; rw [if_neg c129, if_pos ⟨c7, c132⟩, if_neg (fun q => q.2 c160), if_pos c61, if_pos ⟨c61, b167⟩]
                  refine vx_ret ?_
                  refine W.widen (k := 1) (n := 6) (by decide) (by decide) ?_
                  exact W.iret (v := ((((0 + (2 * 1)) + (4 * 0)) + (8 * 1)) + (16 * 1))) hx hb hr (fun t ht hW => ⟨⟨_, (), rfl, ⟨by rw [e_S], by rw [e_S]⟩, by rw [ht]; exact hP, hD⟩, hS.F ht⟩) hS.2.2 d_T_office_153
                · have b167 : (F 9 i) = -1 := b167
                  refine lv_if_eq (tgt := 147) hx hb d_T_office_140 (by decide) (fun _ => ?_) (fun q9 => absurd rfl q9)
                  refine lv_iconst (v := 0) hx hb d_T_office_147 (by decide) ?_
                  refine cp_S (n := 1) [.int 0] hC (t_T_bit l D cM cG cI cJ 0) ⟨kc_T_bit, kn_T, k_T_179, ks_T_bit⟩ (by decide +kernel) ⟨rfl, rfl, Nat.le_of_ble_eq_true rfl, Nat.le_of_ble_eq_true rfl⟩ x_0 (yt_Y D cM cG cI cJ) hY trivial rfl hl.1 rfl (Nat.le_of_ble_eq_true rfl) d_T_office_148 ⟨Nat.le_of_ble_eq_true rfl, Nat.le_of_ble_eq_true rfl⟩ (fun r170 h171 => ?_)
                  obtain rfl : r170 = 0 := by rcases h171 with ⟨q1, q2⟩ | ⟨q1, q2⟩ <;> first | exact q1 | exact absurd rfl q2 | exact absurd q2 (by decide)
                  refine lv_imul hx hb d_T_office_151 ?_
                  refine lv_iadd hx hb d_T_office_152 ?_
                  subst hAe
                  have e_S : sp_of (off, nm, ng, now, F, R) (nI i) y = (0, ((((0 + (2 * 1)) + (4 * 0)) + (8 * 1)) + (16 * 0))) := by simp only [sp_of, hcl]; rw [if_pos ⟨hix, b6⟩]; simp only [bt_I]; rw [if_neg c129, if_pos ⟨c7, c132⟩, if_neg (fun q => q.2 c160), if_pos c61, if_neg (fun q => q.2 b167)]
                  refine vx_ret ?_
                  refine W.widen (k := 1) (n := 6) (by decide) (by decide) ?_
                  exact W.iret (v := ((((0 + (2 * 1)) + (4 * 0)) + (8 * 1)) + (16 * 0))) hx hb hr (fun t ht hW => ⟨⟨_, (), rfl, ⟨by rw [e_S], by rw [e_S]⟩, by rw [ht]; exact hP, hD⟩, hS.F ht⟩) hS.2.2 d_T_office_153
              · refine lv_iconst (v := 1) hx hb d_T_office_110 (by decide) ?_
                refine lv_goto (tgt := 115) hx hb d_T_office_111 (by decide) ?_
                refine cp_S (n := 1) [.int 1] hC (t_T_bit l D cM cG cI cJ 1) ⟨kc_T_bit, kn_T, k_T_179, ks_T_bit⟩ (by decide +kernel) ⟨rfl, rfl, Nat.le_of_ble_eq_true rfl, Nat.le_of_ble_eq_true rfl⟩ x_0 (yt_Y D cM cG cI cJ) hY trivial rfl hl.1 rfl (Nat.le_of_ble_eq_true rfl) d_T_office_115 ⟨Nat.le_of_ble_eq_true rfl, Nat.le_of_ble_eq_true rfl⟩ (fun r172 h173 => ?_)
                obtain rfl : r172 = 1 := by rcases h173 with ⟨q1, q2⟩ | ⟨q1, q2⟩ <;> first | exact q1 | exact absurd rfl q2 | exact absurd q2 (by decide)
                refine lv_imul hx hb d_T_office_118 ?_
                refine lv_iadd hx hb d_T_office_119 ?_
                refine lv_bipush (v := 8) hx hb d_T_office_120 (by decide) ?_
                refine lv_iload hx hb d_T_office_122 (lv_at hl 0 rfl) ?_
                refine cp_S (n := 1) [.int 1] hC (t_T_bit l D cM cG cI cJ 1) ⟨kc_T_bit, kn_T, k_T_179, ks_T_bit⟩ (by decide +kernel) ⟨rfl, rfl, Nat.le_of_ble_eq_true rfl, Nat.le_of_ble_eq_true rfl⟩ x_0 (yt_Y D cM cG cI cJ) hY trivial rfl hl.1 rfl (Nat.le_of_ble_eq_true rfl) d_T_office_124 ⟨Nat.le_of_ble_eq_true rfl, Nat.le_of_ble_eq_true rfl⟩ (fun r174 h175 => ?_)
                obtain rfl : r174 = 1 := by rcases h175 with ⟨q1, q2⟩ | ⟨q1, q2⟩ <;> first | exact q1 | exact absurd rfl q2 | exact absurd q2 (by decide)
                refine lv_imul hx hb d_T_office_127 ?_
                refine lv_iadd hx hb d_T_office_128 ?_
                refine lv_bipush (v := 16) hx hb d_T_office_129 (by decide) ?_
                refine lv_iload hx hb d_T_office_131 (lv_at hl 0 rfl) ?_
                refine lv_if_eq (tgt := 147) hx hb d_T_office_133 (by decide) (fun q9 => absurd q9 (by decide)) (fun _ => ?_)
                refine lv_aload_n hx hb d_T_office_136 rfl (lv_at hl 2 rfl) ?_
                refine cp_V (n := 0) [] hC (t_V_wereControlled l D cM cG cI cJ (pm i) F i) ⟨kc_V_wereControlled, kn_V, k_T_104, ki_V_wereControlled, kv_V_wereControlled⟩ (by decide +kernel) ⟨rfl, rfl, Nat.le_of_ble_eq_true rfl, Nat.le_of_ble_eq_true rfl⟩ x_0 (yt_Y D cM cG cI cJ) hY (wk_1 hP (mv_at hi)) (va_recv hK hP (ci := 1) (q0 := (i + 3)) rfl (mv_at hi)) rfl hl.1 rfl (Nat.le_of_ble_eq_true rfl) d_T_office_137 ⟨Nat.le_of_ble_eq_true rfl, Nat.le_of_ble_eq_true rfl⟩ (fun r176 h177 => ?_)
                rcases h177 with ⟨rfl, b178⟩ | ⟨rfl, b178⟩
                · have b178 : ¬ (F 9 i) = -1 := b178
                  refine lv_if_eq (tgt := 147) hx hb d_T_office_140 (by decide) (fun q9 => absurd q9 (by decide)) (fun _ => ?_)
                  refine lv_iconst (v := 1) hx hb d_T_office_143 (by decide) ?_
                  refine lv_goto (tgt := 148) hx hb d_T_office_144 (by decide) ?_
                  refine cp_S (n := 1) [.int 1] hC (t_T_bit l D cM cG cI cJ 1) ⟨kc_T_bit, kn_T, k_T_179, ks_T_bit⟩ (by decide +kernel) ⟨rfl, rfl, Nat.le_of_ble_eq_true rfl, Nat.le_of_ble_eq_true rfl⟩ x_0 (yt_Y D cM cG cI cJ) hY trivial rfl hl.1 rfl (Nat.le_of_ble_eq_true rfl) d_T_office_148 ⟨Nat.le_of_ble_eq_true rfl, Nat.le_of_ble_eq_true rfl⟩ (fun r179 h180 => ?_)
                  obtain rfl : r179 = 1 := by rcases h180 with ⟨q1, q2⟩ | ⟨q1, q2⟩ <;> first | exact q1 | exact absurd rfl q2 | exact absurd q2 (by decide)
                  refine lv_imul hx hb d_T_office_151 ?_
                  refine lv_iadd hx hb d_T_office_152 ?_
                  subst hAe
                  have e_S : sp_of (off, nm, ng, now, F, R) (nI i) y = (0, ((((0 + (2 * 1)) + (4 * 1)) + (8 * 1)) + (16 * 1))) := by simp only [sp_of, hcl]; rw [if_pos ⟨hix, b6⟩]; simp only [bt_I]; rw [if_neg c129, if_pos ⟨c7, c132⟩, if_pos ⟨c7, c160⟩, if_pos c61, if_pos ⟨c61, b178⟩]
                  refine vx_ret ?_
                  refine W.widen (k := 1) (n := 6) (by decide) (by decide) ?_
                  exact W.iret (v := ((((0 + (2 * 1)) + (4 * 1)) + (8 * 1)) + (16 * 1))) hx hb hr (fun t ht hW => ⟨⟨_, (), rfl, ⟨by rw [e_S], by rw [e_S]⟩, by rw [ht]; exact hP, hD⟩, hS.F ht⟩) hS.2.2 d_T_office_153
                · have b178 : (F 9 i) = -1 := b178
                  refine lv_if_eq (tgt := 147) hx hb d_T_office_140 (by decide) (fun _ => ?_) (fun q9 => absurd rfl q9)
                  refine lv_iconst (v := 0) hx hb d_T_office_147 (by decide) ?_
                  refine cp_S (n := 1) [.int 0] hC (t_T_bit l D cM cG cI cJ 0) ⟨kc_T_bit, kn_T, k_T_179, ks_T_bit⟩ (by decide +kernel) ⟨rfl, rfl, Nat.le_of_ble_eq_true rfl, Nat.le_of_ble_eq_true rfl⟩ x_0 (yt_Y D cM cG cI cJ) hY trivial rfl hl.1 rfl (Nat.le_of_ble_eq_true rfl) d_T_office_148 ⟨Nat.le_of_ble_eq_true rfl, Nat.le_of_ble_eq_true rfl⟩ (fun r181 h182 => ?_)
                  obtain rfl : r181 = 0 := by rcases h182 with ⟨q1, q2⟩ | ⟨q1, q2⟩ <;> first | exact q1 | exact absurd rfl q2 | exact absurd q2 (by decide)
                  refine lv_imul hx hb d_T_office_151 ?_
                  refine lv_iadd hx hb d_T_office_152 ?_
                  subst hAe
                  have e_S : sp_of (off, nm, ng, now, F, R) (nI i) y = (0, ((((0 + (2 * 1)) + (4 * 1)) + (8 * 1)) + (16 * 0))) := by simp only [sp_of, hcl]; rw [if_pos ⟨hix, b6⟩]; simp only [bt_I]; rw [if_neg c129, if_pos ⟨c7, c132⟩, if_pos ⟨c7, c160⟩, if_pos c61, if_neg (fun q => q.2 b178)]
                  refine vx_ret ?_
                  refine W.widen (k := 1) (n := 6) (by decide) (by decide) ?_
                  exact W.iret (v := ((((0 + (2 * 1)) + (4 * 1)) + (8 * 1)) + (16 * 0))) hx hb hr (fun t ht hW => ⟨⟨_, (), rfl, ⟨by rw [e_S], by rw [e_S]⟩, by rw [ht]; exact hP, hD⟩, hS.F ht⟩) hS.2.2 d_T_office_153
          · refine lv_iconst (v := 1) hx hb d_T_office_66 (by decide) ?_
            refine lv_goto (tgt := 71) hx hb d_T_office_67 (by decide) ?_
            refine cp_S (n := 1) [.int 1] hC (t_T_bit l D cM cG cI cJ 1) ⟨kc_T_bit, kn_T, k_T_179, ks_T_bit⟩ (by decide +kernel) ⟨rfl, rfl, Nat.le_of_ble_eq_true rfl, Nat.le_of_ble_eq_true rfl⟩ x_0 (yt_Y D cM cG cI cJ) hY trivial rfl hl.1 rfl (Nat.le_of_ble_eq_true rfl) d_T_office_71 ⟨Nat.le_of_ble_eq_true rfl, Nat.le_of_ble_eq_true rfl⟩ (fun r183 h184 => ?_)
            obtain rfl : r183 = 1 := by rcases h184 with ⟨q1, q2⟩ | ⟨q1, q2⟩ <;> first | exact q1 | exact absurd rfl q2 | exact absurd q2 (by decide)
            refine lv_iconst (v := 2) hx hb d_T_office_74 (by decide) ?_
            refine lv_iload hx hb d_T_office_75 (lv_at hl 1 rfl) ?_
            refine lv_if_eq (tgt := 91) hx hb d_T_office_77 (by decide) (fun q9 => absurd q9 (by decide)) (fun _ => ?_)
            refine lv_aload_n hx hb d_T_office_80 rfl (lv_at hl 2 rfl) ?_
            refine va_get (D := D) (C := R_V) (T := F_V) (N := 19) hx hb htw uw_V hown hK hP (i + 3) (mv_at hi) rfl 17 (by decide) (htw _ k_T_187) (fun _ h9 => h9) rfl d_T_office_81 ?_
            refine lv_if_eq (tgt := 91) hx hb d_T_office_84 (by decide) (fun c185 => ?_) (fun c185 => ?_)
            · refine lv_iconst (v := 0) hx hb d_T_office_91 (by decide) ?_
              refine cp_S (n := 1) [.int 0] hC (t_T_bit l D cM cG cI cJ 0) ⟨kc_T_bit, kn_T, k_T_179, ks_T_bit⟩ (by decide +kernel) ⟨rfl, rfl, Nat.le_of_ble_eq_true rfl, Nat.le_of_ble_eq_true rfl⟩ x_0 (yt_Y D cM cG cI cJ) hY trivial rfl hl.1 rfl (Nat.le_of_ble_eq_true rfl) d_T_office_92 ⟨Nat.le_of_ble_eq_true rfl, Nat.le_of_ble_eq_true rfl⟩ (fun r186 h187 => ?_)
              obtain rfl : r186 = 0 := by rcases h187 with ⟨q1, q2⟩ | ⟨q1, q2⟩ <;> first | exact q1 | exact absurd rfl q2 | exact absurd q2 (by decide)
              refine lv_imul hx hb d_T_office_95 ?_
              refine lv_iadd hx hb d_T_office_96 ?_
              refine lv_iconst (v := 4) hx hb d_T_office_97 (by decide) ?_
              refine lv_iload hx hb d_T_office_98 (lv_at hl 1 rfl) ?_
              refine lv_if_eq (tgt := 114) hx hb d_T_office_100 (by decide) (fun q9 => absurd q9 (by decide)) (fun _ => ?_)
              refine lv_aload_n hx hb d_T_office_103 rfl (lv_at hl 2 rfl) ?_
              refine va_get (D := D) (C := R_V) (T := F_V) (N := 19) hx hb htw uw_V hown hK hP (i + 3) (mv_at hi) rfl 18 (by decide) (htw _ k_T_190) (fun _ h9 => h9) rfl d_T_office_104 ?_
              refine lv_if_eq (tgt := 114) hx hb d_T_office_107 (by decide) (fun c188 => ?_) (fun c188 => ?_)
              · refine lv_iconst (v := 0) hx hb d_T_office_114 (by decide) ?_
                refine cp_S (n := 1) [.int 0] hC (t_T_bit l D cM cG cI cJ 0) ⟨kc_T_bit, kn_T, k_T_179, ks_T_bit⟩ (by decide +kernel) ⟨rfl, rfl, Nat.le_of_ble_eq_true rfl, Nat.le_of_ble_eq_true rfl⟩ x_0 (yt_Y D cM cG cI cJ) hY trivial rfl hl.1 rfl (Nat.le_of_ble_eq_true rfl) d_T_office_115 ⟨Nat.le_of_ble_eq_true rfl, Nat.le_of_ble_eq_true rfl⟩ (fun r189 h190 => ?_)
                obtain rfl : r189 = 0 := by rcases h190 with ⟨q1, q2⟩ | ⟨q1, q2⟩ <;> first | exact q1 | exact absurd rfl q2 | exact absurd q2 (by decide)
                refine lv_imul hx hb d_T_office_118 ?_
                refine lv_iadd hx hb d_T_office_119 ?_
                refine lv_bipush (v := 8) hx hb d_T_office_120 (by decide) ?_
                refine lv_iload hx hb d_T_office_122 (lv_at hl 0 rfl) ?_
                refine cp_S (n := 1) [.int 1] hC (t_T_bit l D cM cG cI cJ 1) ⟨kc_T_bit, kn_T, k_T_179, ks_T_bit⟩ (by decide +kernel) ⟨rfl, rfl, Nat.le_of_ble_eq_true rfl, Nat.le_of_ble_eq_true rfl⟩ x_0 (yt_Y D cM cG cI cJ) hY trivial rfl hl.1 rfl (Nat.le_of_ble_eq_true rfl) d_T_office_124 ⟨Nat.le_of_ble_eq_true rfl, Nat.le_of_ble_eq_true rfl⟩ (fun r191 h192 => ?_)
                obtain rfl : r191 = 1 := by rcases h192 with ⟨q1, q2⟩ | ⟨q1, q2⟩ <;> first | exact q1 | exact absurd rfl q2 | exact absurd q2 (by decide)
                refine lv_imul hx hb d_T_office_127 ?_
                refine lv_iadd hx hb d_T_office_128 ?_
                refine lv_bipush (v := 16) hx hb d_T_office_129 (by decide) ?_
                refine lv_iload hx hb d_T_office_131 (lv_at hl 0 rfl) ?_
                refine lv_if_eq (tgt := 147) hx hb d_T_office_133 (by decide) (fun q9 => absurd q9 (by decide)) (fun _ => ?_)
                refine lv_aload_n hx hb d_T_office_136 rfl (lv_at hl 2 rfl) ?_
                refine cp_V (n := 0) [] hC (t_V_wereControlled l D cM cG cI cJ (pm i) F i) ⟨kc_V_wereControlled, kn_V, k_T_104, ki_V_wereControlled, kv_V_wereControlled⟩ (by decide +kernel) ⟨rfl, rfl, Nat.le_of_ble_eq_true rfl, Nat.le_of_ble_eq_true rfl⟩ x_0 (yt_Y D cM cG cI cJ) hY (wk_1 hP (mv_at hi)) (va_recv hK hP (ci := 1) (q0 := (i + 3)) rfl (mv_at hi)) rfl hl.1 rfl (Nat.le_of_ble_eq_true rfl) d_T_office_137 ⟨Nat.le_of_ble_eq_true rfl, Nat.le_of_ble_eq_true rfl⟩ (fun r193 h194 => ?_)
                rcases h194 with ⟨rfl, b195⟩ | ⟨rfl, b195⟩
                · have b195 : ¬ (F 9 i) = -1 := b195
                  refine lv_if_eq (tgt := 147) hx hb d_T_office_140 (by decide) (fun q9 => absurd q9 (by decide)) (fun _ => ?_)
                  refine lv_iconst (v := 1) hx hb d_T_office_143 (by decide) ?_
                  refine lv_goto (tgt := 148) hx hb d_T_office_144 (by decide) ?_
                  refine cp_S (n := 1) [.int 1] hC (t_T_bit l D cM cG cI cJ 1) ⟨kc_T_bit, kn_T, k_T_179, ks_T_bit⟩ (by decide +kernel) ⟨rfl, rfl, Nat.le_of_ble_eq_true rfl, Nat.le_of_ble_eq_true rfl⟩ x_0 (yt_Y D cM cG cI cJ) hY trivial rfl hl.1 rfl (Nat.le_of_ble_eq_true rfl) d_T_office_148 ⟨Nat.le_of_ble_eq_true rfl, Nat.le_of_ble_eq_true rfl⟩ (fun r196 h197 => ?_)
                  obtain rfl : r196 = 1 := by rcases h197 with ⟨q1, q2⟩ | ⟨q1, q2⟩ <;> first | exact q1 | exact absurd rfl q2 | exact absurd q2 (by decide)
                  refine lv_imul hx hb d_T_office_151 ?_
                  refine lv_iadd hx hb d_T_office_152 ?_
                  subst hAe
                  have e_S : sp_of (off, nm, ng, now, F, R) (nI i) y = (0, ((((1 + (2 * 0)) + (4 * 0)) + (8 * 1)) + (16 * 1))) := by simp only [sp_of, hcl]; rw [if_pos ⟨hix, b6⟩]; simp only [bt_I]; rw [if_pos c129, if_neg (fun q => q.2 c185), if_neg (fun q => q.2 c188), if_pos c61, if_pos ⟨c61, b195⟩]
                  refine vx_ret ?_
                  refine W.widen (k := 1) (n := 6) (by decide) (by decide) ?_
                  exact W.iret (v := ((((1 + (2 * 0)) + (4 * 0)) + (8 * 1)) + (16 * 1))) hx hb hr (fun t ht hW => ⟨⟨_, (), rfl, ⟨by rw [e_S], by rw [e_S]⟩, by rw [ht]; exact hP, hD⟩, hS.F ht⟩) hS.2.2 d_T_office_153
                · have b195 : (F 9 i) = -1 := b195
                  refine lv_if_eq (tgt := 147) hx hb d_T_office_140 (by decide) (fun _ => ?_) (fun q9 => absurd rfl q9)
                  refine lv_iconst (v := 0) hx hb d_T_office_147 (by decide) ?_
                  refine cp_S (n := 1) [.int 0] hC (t_T_bit l D cM cG cI cJ 0) ⟨kc_T_bit, kn_T, k_T_179, ks_T_bit⟩ (by decide +kernel) ⟨rfl, rfl, Nat.le_of_ble_eq_true rfl, Nat.le_of_ble_eq_true rfl⟩ x_0 (yt_Y D cM cG cI cJ) hY trivial rfl hl.1 rfl (Nat.le_of_ble_eq_true rfl) d_T_office_148 ⟨Nat.le_of_ble_eq_true rfl, Nat.le_of_ble_eq_true rfl⟩ (fun r198 h199 => ?_)
                  obtain rfl : r198 = 0 := by rcases h199 with ⟨q1, q2⟩ | ⟨q1, q2⟩ <;> first | exact q1 | exact absurd rfl q2 | exact absurd q2 (by decide)
                  refine lv_imul hx hb d_T_office_151 ?_
                  refine lv_iadd hx hb d_T_office_152 ?_
                  subst hAe
                  have e_S : sp_of (off, nm, ng, now, F, R) (nI i) y = (0, ((((1 + (2 * 0)) + (4 * 0)) + (8 * 1)) + (16 * 0))) := by simp only [sp_of, hcl]; rw [if_pos ⟨hix, b6⟩]; simp only [bt_I]; rw [if_pos c129, if_neg (fun q => q.2 c185), if_neg (fun q => q.2 c188), if_pos c61, if_neg (fun q => q.2 b195)]
                  refine vx_ret ?_
                  refine W.widen (k := 1) (n := 6) (by decide) (by decide) ?_
                  exact W.iret (v := ((((1 + (2 * 0)) + (4 * 0)) + (8 * 1)) + (16 * 0))) hx hb hr (fun t ht hW => ⟨⟨_, (), rfl, ⟨by rw [e_S], by rw [e_S]⟩, by rw [ht]; exact hP, hD⟩, hS.F ht⟩) hS.2.2 d_T_office_153
              · refine lv_iconst (v := 1) hx hb d_T_office_110 (by decide) ?_
                refine lv_goto (tgt := 115) hx hb d_T_office_111 (by decide) ?_
                refine cp_S (n := 1) [.int 1] hC (t_T_bit l D cM cG cI cJ 1) ⟨kc_T_bit, kn_T, k_T_179, ks_T_bit⟩ (by decide +kernel) ⟨rfl, rfl, Nat.le_of_ble_eq_true rfl, Nat.le_of_ble_eq_true rfl⟩ x_0 (yt_Y D cM cG cI cJ) hY trivial rfl hl.1 rfl (Nat.le_of_ble_eq_true rfl) d_T_office_115 ⟨Nat.le_of_ble_eq_true rfl, Nat.le_of_ble_eq_true rfl⟩ (fun r200 h201 => ?_)
                obtain rfl : r200 = 1 := by rcases h201 with ⟨q1, q2⟩ | ⟨q1, q2⟩ <;> first | exact q1 | exact absurd rfl q2 | exact absurd q2 (by decide)
                refine lv_imul hx hb d_T_office_118 ?_
                refine lv_iadd hx hb d_T_office_119 ?_
                refine lv_bipush (v := 8) hx hb d_T_office_120 (by decide) ?_
                refine lv_iload hx hb d_T_office_122 (lv_at hl 0 rfl) ?_
                refine cp_S (n := 1) [.int 1] hC (t_T_bit l D cM cG cI cJ 1) ⟨kc_T_bit, kn_T, k_T_179, ks_T_bit⟩ (by decide +kernel) ⟨rfl, rfl, Nat.le_of_ble_eq_true rfl, Nat.le_of_ble_eq_true rfl⟩ x_0 (yt_Y D cM cG cI cJ) hY trivial rfl hl.1 rfl (Nat.le_of_ble_eq_true rfl) d_T_office_124 ⟨Nat.le_of_ble_eq_true rfl, Nat.le_of_ble_eq_true rfl⟩ (fun r202 h203 => ?_)
                obtain rfl : r202 = 1 := by rcases h203 with ⟨q1, q2⟩ | ⟨q1, q2⟩ <;> first | exact q1 | exact absurd rfl q2 | exact absurd q2 (by decide)
                refine lv_imul hx hb d_T_office_127 ?_
                refine lv_iadd hx hb d_T_office_128 ?_
                refine lv_bipush (v := 16) hx hb d_T_office_129 (by decide) ?_
                refine lv_iload hx hb d_T_office_131 (lv_at hl 0 rfl) ?_
                refine lv_if_eq (tgt := 147) hx hb d_T_office_133 (by decide) (fun q9 => absurd q9 (by decide)) (fun _ => ?_)
                refine lv_aload_n hx hb d_T_office_136 rfl (lv_at hl 2 rfl) ?_
                refine cp_V (n := 0) [] hC (t_V_wereControlled l D cM cG cI cJ (pm i) F i) ⟨kc_V_wereControlled, kn_V, k_T_104, ki_V_wereControlled, kv_V_wereControlled⟩ (by decide +kernel) ⟨rfl, rfl, Nat.le_of_ble_eq_true rfl, Nat.le_of_ble_eq_true rfl⟩ x_0 (yt_Y D cM cG cI cJ) hY (wk_1 hP (mv_at hi)) (va_recv hK hP (ci := 1) (q0 := (i + 3)) rfl (mv_at hi)) rfl hl.1 rfl (Nat.le_of_ble_eq_true rfl) d_T_office_137 ⟨Nat.le_of_ble_eq_true rfl, Nat.le_of_ble_eq_true rfl⟩ (fun r204 h205 => ?_)
                rcases h205 with ⟨rfl, b206⟩ | ⟨rfl, b206⟩
                · have b206 : ¬ (F 9 i) = -1 := b206
                  refine lv_if_eq (tgt := 147) hx hb d_T_office_140 (by decide) (fun q9 => absurd q9 (by decide)) (fun _ => ?_)
                  refine lv_iconst (v := 1) hx hb d_T_office_143 (by decide) ?_
                  refine lv_goto (tgt := 148) hx hb d_T_office_144 (by decide) ?_
                  refine cp_S (n := 1) [.int 1] hC (t_T_bit l D cM cG cI cJ 1) ⟨kc_T_bit, kn_T, k_T_179, ks_T_bit⟩ (by decide +kernel) ⟨rfl, rfl, Nat.le_of_ble_eq_true rfl, Nat.le_of_ble_eq_true rfl⟩ x_0 (yt_Y D cM cG cI cJ) hY trivial rfl hl.1 rfl (Nat.le_of_ble_eq_true rfl) d_T_office_148 ⟨Nat.le_of_ble_eq_true rfl, Nat.le_of_ble_eq_true rfl⟩ (fun r207 h208 => ?_)
                  obtain rfl : r207 = 1 := by rcases h208 with ⟨q1, q2⟩ | ⟨q1, q2⟩ <;> first | exact q1 | exact absurd rfl q2 | exact absurd q2 (by decide)
                  refine lv_imul hx hb d_T_office_151 ?_
                  refine lv_iadd hx hb d_T_office_152 ?_
                  subst hAe
                  have e_S : sp_of (off, nm, ng, now, F, R) (nI i) y = (0, ((((1 + (2 * 0)) + (4 * 1)) + (8 * 1)) + (16 * 1))) := by simp only [sp_of, hcl]; rw [if_pos ⟨hix, b6⟩]; simp only [bt_I]; rw [if_pos c129, if_neg (fun q => q.2 c185), if_pos ⟨c7, c188⟩, if_pos c61, if_pos ⟨c61, b206⟩]
                  refine vx_ret ?_
                  refine W.widen (k := 1) (n := 6) (by decide) (by decide) ?_
                  exact W.iret (v := ((((1 + (2 * 0)) + (4 * 1)) + (8 * 1)) + (16 * 1))) hx hb hr (fun t ht hW => ⟨⟨_, (), rfl, ⟨by rw [e_S], by rw [e_S]⟩, by rw [ht]; exact hP, hD⟩, hS.F ht⟩) hS.2.2 d_T_office_153
                · have b206 : (F 9 i) = -1 := b206
                  refine lv_if_eq (tgt := 147) hx hb d_T_office_140 (by decide) (fun _ => ?_) (fun q9 => absurd rfl q9)
                  refine lv_iconst (v := 0) hx hb d_T_office_147 (by decide) ?_
                  refine cp_S (n := 1) [.int 0] hC (t_T_bit l D cM cG cI cJ 0) ⟨kc_T_bit, kn_T, k_T_179, ks_T_bit⟩ (by decide +kernel) ⟨rfl, rfl, Nat.le_of_ble_eq_true rfl, Nat.le_of_ble_eq_true rfl⟩ x_0 (yt_Y D cM cG cI cJ) hY trivial rfl hl.1 rfl (Nat.le_of_ble_eq_true rfl) d_T_office_148 ⟨Nat.le_of_ble_eq_true rfl, Nat.le_of_ble_eq_true rfl⟩ (fun r209 h210 => ?_)
                  obtain rfl : r209 = 0 := by rcases h210 with ⟨q1, q2⟩ | ⟨q1, q2⟩ <;> first | exact q1 | exact absurd rfl q2 | exact absurd q2 (by decide)
                  refine lv_imul hx hb d_T_office_151 ?_
                  refine lv_iadd hx hb d_T_office_152 ?_
                  subst hAe
                  have e_S : sp_of (off, nm, ng, now, F, R) (nI i) y = (0, ((((1 + (2 * 0)) + (4 * 1)) + (8 * 1)) + (16 * 0))) := by simp only [sp_of, hcl]; rw [if_pos ⟨hix, b6⟩]; simp only [bt_I]; rw [if_pos c129, if_neg (fun q => q.2 c185), if_pos ⟨c7, c188⟩, if_pos c61, if_neg (fun q => q.2 b206)]
                  refine vx_ret ?_
                  refine W.widen (k := 1) (n := 6) (by decide) (by decide) ?_
                  exact W.iret (v := ((((1 + (2 * 0)) + (4 * 1)) + (8 * 1)) + (16 * 0))) hx hb hr (fun t ht hW => ⟨⟨_, (), rfl, ⟨by rw [e_S], by rw [e_S]⟩, by rw [ht]; exact hP, hD⟩, hS.F ht⟩) hS.2.2 d_T_office_153
            · refine lv_iconst (v := 1) hx hb d_T_office_87 (by decide) ?_
              refine lv_goto (tgt := 92) hx hb d_T_office_88 (by decide) ?_
              refine cp_S (n := 1) [.int 1] hC (t_T_bit l D cM cG cI cJ 1) ⟨kc_T_bit, kn_T, k_T_179, ks_T_bit⟩ (by decide +kernel) ⟨rfl, rfl, Nat.le_of_ble_eq_true rfl, Nat.le_of_ble_eq_true rfl⟩ x_0 (yt_Y D cM cG cI cJ) hY trivial rfl hl.1 rfl (Nat.le_of_ble_eq_true rfl) d_T_office_92 ⟨Nat.le_of_ble_eq_true rfl, Nat.le_of_ble_eq_true rfl⟩ (fun r211 h212 => ?_)
              obtain rfl : r211 = 1 := by rcases h212 with ⟨q1, q2⟩ | ⟨q1, q2⟩ <;> first | exact q1 | exact absurd rfl q2 | exact absurd q2 (by decide)
              refine lv_imul hx hb d_T_office_95 ?_
              refine lv_iadd hx hb d_T_office_96 ?_
              refine lv_iconst (v := 4) hx hb d_T_office_97 (by decide) ?_
              refine lv_iload hx hb d_T_office_98 (lv_at hl 1 rfl) ?_
              refine lv_if_eq (tgt := 114) hx hb d_T_office_100 (by decide) (fun q9 => absurd q9 (by decide)) (fun _ => ?_)
              refine lv_aload_n hx hb d_T_office_103 rfl (lv_at hl 2 rfl) ?_
              refine va_get (D := D) (C := R_V) (T := F_V) (N := 19) hx hb htw uw_V hown hK hP (i + 3) (mv_at hi) rfl 18 (by decide) (htw _ k_T_190) (fun _ h9 => h9) rfl d_T_office_104 ?_
              refine lv_if_eq (tgt := 114) hx hb d_T_office_107 (by decide) (fun c213 => ?_) (fun c213 => ?_)
              · refine lv_iconst (v := 0) hx hb d_T_office_114 (by decide) ?_
                refine cp_S (n := 1) [.int 0] hC (t_T_bit l D cM cG cI cJ 0) ⟨kc_T_bit, kn_T, k_T_179, ks_T_bit⟩ (by decide +kernel) ⟨rfl, rfl, Nat.le_of_ble_eq_true rfl, Nat.le_of_ble_eq_true rfl⟩ x_0 (yt_Y D cM cG cI cJ) hY trivial rfl hl.1 rfl (Nat.le_of_ble_eq_true rfl) d_T_office_115 ⟨Nat.le_of_ble_eq_true rfl, Nat.le_of_ble_eq_true rfl⟩ (fun r214 h215 => ?_)
                obtain rfl : r214 = 0 := by rcases h215 with ⟨q1, q2⟩ | ⟨q1, q2⟩ <;> first | exact q1 | exact absurd rfl q2 | exact absurd q2 (by decide)
                refine lv_imul hx hb d_T_office_118 ?_
                refine lv_iadd hx hb d_T_office_119 ?_
                refine lv_bipush (v := 8) hx hb d_T_office_120 (by decide) ?_
                refine lv_iload hx hb d_T_office_122 (lv_at hl 0 rfl) ?_
                refine cp_S (n := 1) [.int 1] hC (t_T_bit l D cM cG cI cJ 1) ⟨kc_T_bit, kn_T, k_T_179, ks_T_bit⟩ (by decide +kernel) ⟨rfl, rfl, Nat.le_of_ble_eq_true rfl, Nat.le_of_ble_eq_true rfl⟩ x_0 (yt_Y D cM cG cI cJ) hY trivial rfl hl.1 rfl (Nat.le_of_ble_eq_true rfl) d_T_office_124 ⟨Nat.le_of_ble_eq_true rfl, Nat.le_of_ble_eq_true rfl⟩ (fun r216 h217 => ?_)
                obtain rfl : r216 = 1 := by rcases h217 with ⟨q1, q2⟩ | ⟨q1, q2⟩ <;> first | exact q1 | exact absurd rfl q2 | exact absurd q2 (by decide)
                refine lv_imul hx hb d_T_office_127 ?_
                refine lv_iadd hx hb d_T_office_128 ?_
                refine lv_bipush (v := 16) hx hb d_T_office_129 (by decide) ?_
                refine lv_iload hx hb d_T_office_131 (lv_at hl 0 rfl) ?_
                refine lv_if_eq (tgt := 147) hx hb d_T_office_133 (by decide) (fun q9 => absurd q9 (by decide)) (fun _ => ?_)
                refine lv_aload_n hx hb d_T_office_136 rfl (lv_at hl 2 rfl) ?_
                refine cp_V (n := 0) [] hC (t_V_wereControlled l D cM cG cI cJ (pm i) F i) ⟨kc_V_wereControlled, kn_V, k_T_104, ki_V_wereControlled, kv_V_wereControlled⟩ (by decide +kernel) ⟨rfl, rfl, Nat.le_of_ble_eq_true rfl, Nat.le_of_ble_eq_true rfl⟩ x_0 (yt_Y D cM cG cI cJ) hY (wk_1 hP (mv_at hi)) (va_recv hK hP (ci := 1) (q0 := (i + 3)) rfl (mv_at hi)) rfl hl.1 rfl (Nat.le_of_ble_eq_true rfl) d_T_office_137 ⟨Nat.le_of_ble_eq_true rfl, Nat.le_of_ble_eq_true rfl⟩ (fun r218 h219 => ?_)
                rcases h219 with ⟨rfl, b220⟩ | ⟨rfl, b220⟩
                · have b220 : ¬ (F 9 i) = -1 := b220
                  refine lv_if_eq (tgt := 147) hx hb d_T_office_140 (by decide) (fun q9 => absurd q9 (by decide)) (fun _ => ?_)
                  refine lv_iconst (v := 1) hx hb d_T_office_143 (by decide) ?_
                  refine lv_goto (tgt := 148) hx hb d_T_office_144 (by decide) ?_
                  refine cp_S (n := 1) [.int 1] hC (t_T_bit l D cM cG cI cJ 1) ⟨kc_T_bit, kn_T, k_T_179, ks_T_bit⟩ (by decide +kernel) ⟨rfl, rfl, Nat.le_of_ble_eq_true rfl, Nat.le_of_ble_eq_true rfl⟩ x_0 (yt_Y D cM cG cI cJ) hY trivial rfl hl.1 rfl (Nat.le_of_ble_eq_true rfl) d_T_office_148 ⟨Nat.le_of_ble_eq_true rfl, Nat.le_of_ble_eq_true rfl⟩ (fun r221 h222 => ?_)
                  obtain rfl : r221 = 1 := by rcases h222 with ⟨q1, q2⟩ | ⟨q1, q2⟩ <;> first | exact q1 | exact absurd rfl q2 | exact absurd q2 (by decide)
                  refine lv_imul hx hb d_T_office_151 ?_
                  refine lv_iadd hx hb d_T_office_152 ?_
                  subst hAe
                  have e_S : sp_of (off, nm, ng, now, F, R) (nI i) y = (0, ((((1 + (2 * 1)) + (4 * 0)) + (8 * 1)) + (16 * 1))) := by simp only [sp_of, hcl]; rw [if_pos ⟨hix, b6⟩]; simp only [bt_I]; rw [if_pos c129, if_pos ⟨c7, c185⟩, if_neg (fun q => q.2 c213), if_pos c61, if_pos ⟨c61, b220⟩]
                  refine vx_ret ?_
                  refine W.widen (k := 1) (n := 6) (by decide) (by decide) ?_
                  exact W.iret (v := ((((1 + (2 * 1)) + (4 * 0)) + (8 * 1)) + (16 * 1))) hx hb hr (fun t ht hW => ⟨⟨_, (), rfl, ⟨by rw [e_S], by rw [e_S]⟩, by rw [ht]; exact hP, hD⟩, hS.F ht⟩) hS.2.2 d_T_office_153
                · have b220 : (F 9 i) = -1 := b220
                  refine lv_if_eq (tgt := 147) hx hb d_T_office_140 (by decide) (fun _ => ?_) (fun q9 => absurd rfl q9)
                  refine lv_iconst (v := 0) hx hb d_T_office_147 (by decide) ?_
                  refine cp_S (n := 1) [.int 0] hC (t_T_bit l D cM cG cI cJ 0) ⟨kc_T_bit, kn_T, k_T_179, ks_T_bit⟩ (by decide +kernel) ⟨rfl, rfl, Nat.le_of_ble_eq_true rfl, Nat.le_of_ble_eq_true rfl⟩ x_0 (yt_Y D cM cG cI cJ) hY trivial rfl hl.1 rfl (Nat.le_of_ble_eq_true rfl) d_T_office_148 ⟨Nat.le_of_ble_eq_true rfl, Nat.le_of_ble_eq_true rfl⟩ (fun r223 h224 => ?_)
                  obtain rfl : r223 = 0 := by rcases h224 with ⟨q1, q2⟩ | ⟨q1, q2⟩ <;> first | exact q1 | exact absurd rfl q2 | exact absurd q2 (by decide)
                  refine lv_imul hx hb d_T_office_151 ?_
                  refine lv_iadd hx hb d_T_office_152 ?_
                  subst hAe
                  have e_S : sp_of (off, nm, ng, now, F, R) (nI i) y = (0, ((((1 + (2 * 1)) + (4 * 0)) + (8 * 1)) + (16 * 0))) := by simp only [sp_of, hcl]; rw [if_pos ⟨hix, b6⟩]; simp only [bt_I]; rw [if_pos c129, if_pos ⟨c7, c185⟩, if_neg (fun q => q.2 c213), if_pos c61, if_neg (fun q => q.2 b220)]
                  refine vx_ret ?_
                  refine W.widen (k := 1) (n := 6) (by decide) (by decide) ?_
                  exact W.iret (v := ((((1 + (2 * 1)) + (4 * 0)) + (8 * 1)) + (16 * 0))) hx hb hr (fun t ht hW => ⟨⟨_, (), rfl, ⟨by rw [e_S], by rw [e_S]⟩, by rw [ht]; exact hP, hD⟩, hS.F ht⟩) hS.2.2 d_T_office_153
              · refine lv_iconst (v := 1) hx hb d_T_office_110 (by decide) ?_
                refine lv_goto (tgt := 115) hx hb d_T_office_111 (by decide) ?_
                refine cp_S (n := 1) [.int 1] hC (t_T_bit l D cM cG cI cJ 1) ⟨kc_T_bit, kn_T, k_T_179, ks_T_bit⟩ (by decide +kernel) ⟨rfl, rfl, Nat.le_of_ble_eq_true rfl, Nat.le_of_ble_eq_true rfl⟩ x_0 (yt_Y D cM cG cI cJ) hY trivial rfl hl.1 rfl (Nat.le_of_ble_eq_true rfl) d_T_office_115 ⟨Nat.le_of_ble_eq_true rfl, Nat.le_of_ble_eq_true rfl⟩ (fun r225 h226 => ?_)
                obtain rfl : r225 = 1 := by rcases h226 with ⟨q1, q2⟩ | ⟨q1, q2⟩ <;> first | exact q1 | exact absurd rfl q2 | exact absurd q2 (by decide)
                refine lv_imul hx hb d_T_office_118 ?_
                refine lv_iadd hx hb d_T_office_119 ?_
                refine lv_bipush (v := 8) hx hb d_T_office_120 (by decide) ?_
                refine lv_iload hx hb d_T_office_122 (lv_at hl 0 rfl) ?_
                refine cp_S (n := 1) [.int 1] hC (t_T_bit l D cM cG cI cJ 1) ⟨kc_T_bit, kn_T, k_T_179, ks_T_bit⟩ (by decide +kernel) ⟨rfl, rfl, Nat.le_of_ble_eq_true rfl, Nat.le_of_ble_eq_true rfl⟩ x_0 (yt_Y D cM cG cI cJ) hY trivial rfl hl.1 rfl (Nat.le_of_ble_eq_true rfl) d_T_office_124 ⟨Nat.le_of_ble_eq_true rfl, Nat.le_of_ble_eq_true rfl⟩ (fun r227 h228 => ?_)
                obtain rfl : r227 = 1 := by rcases h228 with ⟨q1, q2⟩ | ⟨q1, q2⟩ <;> first | exact q1 | exact absurd rfl q2 | exact absurd q2 (by decide)
                refine lv_imul hx hb d_T_office_127 ?_
                refine lv_iadd hx hb d_T_office_128 ?_
                refine lv_bipush (v := 16) hx hb d_T_office_129 (by decide) ?_
                refine lv_iload hx hb d_T_office_131 (lv_at hl 0 rfl) ?_
                refine lv_if_eq (tgt := 147) hx hb d_T_office_133 (by decide) (fun q9 => absurd q9 (by decide)) (fun _ => ?_)
                refine lv_aload_n hx hb d_T_office_136 rfl (lv_at hl 2 rfl) ?_
                refine cp_V (n := 0) [] hC (t_V_wereControlled l D cM cG cI cJ (pm i) F i) ⟨kc_V_wereControlled, kn_V, k_T_104, ki_V_wereControlled, kv_V_wereControlled⟩ (by decide +kernel) ⟨rfl, rfl, Nat.le_of_ble_eq_true rfl, Nat.le_of_ble_eq_true rfl⟩ x_0 (yt_Y D cM cG cI cJ) hY (wk_1 hP (mv_at hi)) (va_recv hK hP (ci := 1) (q0 := (i + 3)) rfl (mv_at hi)) rfl hl.1 rfl (Nat.le_of_ble_eq_true rfl) d_T_office_137 ⟨Nat.le_of_ble_eq_true rfl, Nat.le_of_ble_eq_true rfl⟩ (fun r229 h230 => ?_)
                rcases h230 with ⟨rfl, b231⟩ | ⟨rfl, b231⟩
                · have b231 : ¬ (F 9 i) = -1 := b231
                  refine lv_if_eq (tgt := 147) hx hb d_T_office_140 (by decide) (fun q9 => absurd q9 (by decide)) (fun _ => ?_)
                  refine lv_iconst (v := 1) hx hb d_T_office_143 (by decide) ?_
                  refine lv_goto (tgt := 148) hx hb d_T_office_144 (by decide) ?_
                  refine cp_S (n := 1) [.int 1] hC (t_T_bit l D cM cG cI cJ 1) ⟨kc_T_bit, kn_T, k_T_179, ks_T_bit⟩ (by decide +kernel) ⟨rfl, rfl, Nat.le_of_ble_eq_true rfl, Nat.le_of_ble_eq_true rfl⟩ x_0 (yt_Y D cM cG cI cJ) hY trivial rfl hl.1 rfl (Nat.le_of_ble_eq_true rfl) d_T_office_148 ⟨Nat.le_of_ble_eq_true rfl, Nat.le_of_ble_eq_true rfl⟩ (fun r232 h233 => ?_)
                  obtain rfl : r232 = 1 := by rcases h233 with ⟨q1, q2⟩ | ⟨q1, q2⟩ <;> first | exact q1 | exact absurd rfl q2 | exact absurd q2 (by decide)
                  refine lv_imul hx hb d_T_office_151 ?_
                  refine lv_iadd hx hb d_T_office_152 ?_
                  subst hAe
                  have e_S : sp_of (off, nm, ng, now, F, R) (nI i) y = (0, ((((1 + (2 * 1)) + (4 * 1)) + (8 * 1)) + (16 * 1))) := by simp only [sp_of, hcl]; rw [if_pos ⟨hix, b6⟩]; simp only [bt_I]; rw [if_pos c129, if_pos ⟨c7, c185⟩, if_pos ⟨c7, c213⟩, if_pos c61, if_pos ⟨c61, b231⟩]
                  refine vx_ret ?_
                  refine W.widen (k := 1) (n := 6) (by decide) (by decide) ?_
                  exact W.iret (v := ((((1 + (2 * 1)) + (4 * 1)) + (8 * 1)) + (16 * 1))) hx hb hr (fun t ht hW => ⟨⟨_, (), rfl, ⟨by rw [e_S], by rw [e_S]⟩, by rw [ht]; exact hP, hD⟩, hS.F ht⟩) hS.2.2 d_T_office_153
                · have b231 : (F 9 i) = -1 := b231
                  refine lv_if_eq (tgt := 147) hx hb d_T_office_140 (by decide) (fun _ => ?_) (fun q9 => absurd rfl q9)
                  refine lv_iconst (v := 0) hx hb d_T_office_147 (by decide) ?_
                  refine cp_S (n := 1) [.int 0] hC (t_T_bit l D cM cG cI cJ 0) ⟨kc_T_bit, kn_T, k_T_179, ks_T_bit⟩ (by decide +kernel) ⟨rfl, rfl, Nat.le_of_ble_eq_true rfl, Nat.le_of_ble_eq_true rfl⟩ x_0 (yt_Y D cM cG cI cJ) hY trivial rfl hl.1 rfl (Nat.le_of_ble_eq_true rfl) d_T_office_148 ⟨Nat.le_of_ble_eq_true rfl, Nat.le_of_ble_eq_true rfl⟩ (fun r234 h235 => ?_)
                  obtain rfl : r234 = 0 := by rcases h235 with ⟨q1, q2⟩ | ⟨q1, q2⟩ <;> first | exact q1 | exact absurd rfl q2 | exact absurd q2 (by decide)
                  refine lv_imul hx hb d_T_office_151 ?_
                  refine lv_iadd hx hb d_T_office_152 ?_
                  subst hAe
                  have e_S : sp_of (off, nm, ng, now, F, R) (nI i) y = (0, ((((1 + (2 * 1)) + (4 * 1)) + (8 * 1)) + (16 * 0))) := by simp only [sp_of, hcl]; rw [if_pos ⟨hix, b6⟩]; simp only [bt_I]; rw [if_pos c129, if_pos ⟨c7, c185⟩, if_pos ⟨c7, c213⟩, if_pos c61, if_neg (fun q => q.2 b231)]
                  refine vx_ret ?_
                  refine W.widen (k := 1) (n := 6) (by decide) (by decide) ?_
                  exact W.iret (v := ((((1 + (2 * 1)) + (4 * 1)) + (8 * 1)) + (16 * 0))) hx hb hr (fun t ht hW => ⟨⟨_, (), rfl, ⟨by rw [e_S], by rw [e_S]⟩, by rw [ht]; exact hP, hD⟩, hS.F ht⟩) hS.2.2 d_T_office_153
    · refine lv_if_ne (tgt := 28) hx hb d_T_office_15 (by decide) (fun q9 => absurd rfl q9) (fun _ => ?_)
      obtain ⟨sa9, hsa9⟩ := hY.2.2.2.1 (185, "no such movement or office") (by decide)
      have e_S : sp_of (off, nm, ng, now, F, R) (nI i) y = (1, 0) := by simp only [sp_of]; rw [if_neg (fun q => b6 q.2)]
      exact vx_throwS (A := A) hx hb hl0 hown (by decide +kernel) (by decide +kernel) (htw _ k_T_158) (htw _ kn_IndexOutOfBoundsException) hsa9 (at_IndexOutOfBoundsException htw hY) ag_IndexOutOfBoundsException hXs.1 hXs.2 hS (hl.1.trans hml.symm) d_T_office_18 d_T_office_21 d_T_office_22 d_T_office_24 d_T_office_27 (fun x hx9 => (hne x hx9).elim) (Nat.le_of_ble_eq_true rfl) (Nat.le_of_ble_eq_true rfl) (Nat.le_of_ble_eq_true rfl) (Nat.le_of_ble_eq_true rfl) hlocks (fun t ht1 ht2 ht3 => ⟨(), trivial, ⟨rfl, by rw [e_S]⟩, ht2, fun q h1 _ => ht3 q h1⟩) (fun z hz => nomatch hz) (Nat.le_of_ble_eq_true rfl) (Nat.le_of_ble_eq_true rfl)
  · refine W.eq (g2 := F0 m 5 ls (.null :: [])) rfl ?_
    refine lv_astore_nN (lv' := [(3, .null), (0, .ref o), (1, .int x), (2, .int y)]) hx hb d_T_office_5 rfl hl (by decide) rfl (fun ls hl => ?_)
    refine lv_aload_nN hx hb d_T_office_6 rfl (lv_at hl 0 rfl) ?_
    refine lv_ifnullN (tgt := 18) hx hb d_T_office_7 (by decide) ?_
    obtain ⟨sa9, hsa9⟩ := hY.2.2.2.1 (185, "no such movement or office") (by decide)
    have e_S : sp_of (off, nm, ng, now, F, R) x y = (1, 0) := by simp only [sp_of]; rw [if_neg (fun q => n3 q.1)]
    exact vx_throwS (A := A) hx hb hl0 hown (by decide +kernel) (by decide +kernel) (htw _ k_T_158) (htw _ kn_IndexOutOfBoundsException) hsa9 (at_IndexOutOfBoundsException htw hY) ag_IndexOutOfBoundsException hXs.1 hXs.2 hS (hl.1.trans hml.symm) d_T_office_18 d_T_office_21 d_T_office_22 d_T_office_24 d_T_office_27 (fun x hx9 => (hne x hx9).elim) (Nat.le_of_ble_eq_true rfl) (Nat.le_of_ble_eq_true rfl) (Nat.le_of_ble_eq_true rfl) (Nat.le_of_ble_eq_true rfl) hlocks (fun t ht1 ht2 ht3 => ⟨(), trivial, ⟨rfl, by rw [e_S]⟩, ht2, fun q h1 _ => ht3 q h1⟩) (fun z hz => nomatch hz) (Nat.le_of_ble_eq_true rfl) (Nat.le_of_ble_eq_true rfl)
