theorem wk_F1 {A : Nat → Prop} {ws : va_W} {H0 H : Heap} {locs : List Loc} {k : Nat} {x : Nat × va_E} (hD : va_D A ws) (hS : va_S A H0 H locs) (hA : ∀ q, H0.size ≤ q → A q) (hk : ws[k]? = some x) : ∀ q, va_A [x] H.size q → A q := by
  rintro q (⟨n, e, hn⟩ | hq)
  · cases n with
    | zero => simp at hn; rw [hn] at hk; exact hD.2 k _ hk
    | succ n => simp at hn
  · exact hA q (Nat.le_trans hS.1 hq)
theorem la_ni {F : Nat → Nat → Int32} {i k j : Nat} {a b : Int32} (h : j ≠ i) : la_F F i a b k j = F k j := by unfold la_F; split <;> simp only [up_ni h]
theorem lr_ni {F : Nat → Nat → Int32} {i k j : Nat} {a b : Int32} (h : j ≠ i) : lr_F F i a b k j = F k j := by unfold lr_F; split <;> simp only [up_ni h]
theorem rc_ni {F : Nat → Nat → Int32} {i k j : Nat} (h : j ≠ i) : rc_F F i k j = F k j := by unfold rc_F; split <;> simp only [up_ni h]
set_option maxHeartbeats 4000000 in
set_option maxRecDepth 100000 in
theorem t_T_actOn (l : Launch) (D : va_G) (cM cG cI cJ : ClassId) (o am ag : Nat) (pm pg : Nat → Nat) (off : Int32) (nm ng : Nat) (now : Int32) (F : Nat → Nat → Int32) (R : Nat → Int32) (sz : Nat) (i j : Nat) (hi : i < nm) (hj : j < ng) (hm : (R (7 * j + 1)).toNatClampNeg = i) (h8 : F 8 i = 0 ∨ F 8 i = 1) (h17 : F 17 i = 0 ∨ F 17 i = 1) (h18 : F 18 i = 0 ∨ F 18 i = 1) (hg : R (7 * j) = 4 → ng < 200) : Met l y_T_actOn (Cond.code y_T_actOn c_T_actOn 3 none :: tw_L) ({ frames := 5, cells := 1, slots := 7, locals := 108 } : Room) (mu_P D (ws_C cM cG o am ag pm pg (off, nm, ng, now, F, R)) sz (fun _ _ => True) (yt_P D cM cG cI cJ) [.ref o, .ref (pg j), .ref (pm i)]) (va_Qv (fun _ : Nat → Nat => True) (mu_B D (ws_C cM cG o am ag pm pg (off, nm, ng, now, F, R)) sz (fun pg1 => (ws_C cM cG o am ag pm pg1 (ac_S (off, nm, ng, now, F, R) j)))) (va_A (ws_C cM cG o am ag pm pg (off, nm, ng, now, F, R)) sz)) 1 7 (va_A (ws_C cM cG o am ag pm pg (off, nm, ng, now, F, R)) sz) := by
  refine Met.ofW (cc := c_T_actOn) (maxL := 3) (ret := none) (by decide) rfl ?_
  intro p e s m args below meth c s₁ B hml hv
  obtain ⟨rfl, hsz, hP, hD0, hX, hY⟩ := hv
  have hx := B.exec
  have hb := B.bytes
  have hr := B.returns
  have htw : ∀ w ∈ tw_L, w.before _ s = true := fun w hw => atoms_spec (ws := (Cond.code y_T_actOn c_T_actOn 3 none :: tw_L)) B.pre w (List.mem_cons_of_mem _ hw)
  have hown : s.vm.findClass R_T = some m.cls := findClass_of_methodNamed B.named
  have hlocks := B.notSynchronized
  have hC : CallFix p m c c_T_actOn 3 s _ tw_L R_T := ⟨hx, hb, hml, hown, htw⟩
  have hK := hY.1
  have hl := lv_entry ([.ref o, .ref (pg j), .ref (pm i)]) (n := 3) (Nat.le_of_ble_eq_true rfl)
  rw [lg_entry_eq]
  generalize (lg_sl ([.ref o, .ref (pg j), .ref (pm i)]) ++ List.replicate (3 - (lg_sl ([.ref o, .ref (pg j), .ref (pm i)])).length) Slot.unset).toArray = ls at hl ⊢
  have hl : lv_has ls 3 [(0, .ref o), (1, .ref (pg j)), (2, .ref (pm i))] := hl
  subst hsz
  obtain ⟨A, hAe⟩ : ∃ A : Nat → Prop, A = va_A (ws_C cM cG o am ag pm pg (off, nm, ng, now, F, R)) s.heap.size := ⟨_, rfl⟩
  have hD : va_D A (ws_C cM cG o am ag pm pg (off, nm, ng, now, F, R)) := by rw [hAe]; exact hD0.self
  have hA : ∀ q : Nat, s.heap.size ≤ q → A q := fun q h => by rw [hAe]; exact Or.inr h
  have hS : va_S A s.heap s.heap [] := va_S.rf
  refine lv_aload_n hx hb d_T_actOn_0 rfl (lv_at hl 1 rfl) ?_
  refine va_get (D := D) (C := R_G) (T := F_G) (N := 7) hx hb htw uw_G hown hK hP (nm + j + 3) (ms_at hj) rfl 0 (by decide) (htw _ k_T_195) (fun _ h9 => h9) rfl d_T_actOn_1 ?_
  by_cases e1 : (R (7 * j)) = 1
  · refine sk_as e1 ?_
    refine lv_tableIn (off := 40) (tgt := 44) hx hb d_T_actOn_4 (by decide) (by decide) rfl (by decide) ?_
    refine lv_aload_n hx hb d_T_actOn_44 rfl (lv_at hl 2 rfl) ?_
    refine lv_iconst (v := 1) hx hb d_T_actOn_45 (by decide) ?_
    refine va_put (D := D) (ci := 1) (v := .int 1) (ty := .boolean) (C := R_V) (T := F_V) (N := 19) hx hb htw uw_V ft_V tk_V n_V hown hK hP hD hS (i + 3) (mv_at hi) rfl 17 (by decide) (htw _ k_T_187) (fun _ h9 => h9) rfl (by decide +kernel) rfl rfl (Nat.le_of_ble_eq_true rfl) d_T_actOn_46 (fun H locs hP hD hS => ?_)
    rw [mv_put hi (by decide)] at hP hD
    have hP : va_P D cl_L (ws_C cM cG o am ag pm pg (off, nm, ng, now, up_F F 17 i 1, R)) H := hP
    have hD : va_D A (ws_C cM cG o am ag pm pg (off, nm, ng, now, up_F F 17 i 1, R)) := hD
    refine lv_goto (tgt := 102) hx hb d_T_actOn_49 (by decide) ?_
    subst hAe
    have e_S : ac_S (off, nm, ng, now, F, R) j = (off, nm, ng, now, up_F F 17 i 1, R) := by simp only [ac_S, if_pos e1, hm]
    refine W.widen (k := 1) (n := 7) (by decide) (by decide) ?_
    exact W.vret hx hb hr (fun t ht hW => ⟨⟨pg, rfl, trivial, by rw [ht, e_S]; exact hP, by rw [e_S]; exact hD⟩, hS.F ht⟩) hS.2.2 d_T_actOn_102
  · by_cases e2 : (R (7 * j)) = 2
    · refine sk_as e2 ?_
      refine lv_tableIn (off := 48) (tgt := 52) hx hb d_T_actOn_4 (by decide) (by decide) rfl (by decide) ?_
      refine lv_aload_n hx hb d_T_actOn_52 rfl (lv_at hl 2 rfl) ?_
      refine lv_aload_n hx hb d_T_actOn_53 rfl (lv_at hl 1 rfl) ?_
      refine va_get (D := D) (C := R_G) (T := F_G) (N := 7) hx hb htw uw_G hown hK hP (nm + j + 3) (ms_at hj) rfl 4 (by decide) (htw _ k_T_201) (fun _ h9 => h9) rfl d_T_actOn_54 ?_
      refine lv_aload_n hx hb d_T_actOn_57 rfl (lv_at hl 1 rfl) ?_
      refine va_get (D := D) (C := R_G) (T := F_G) (N := 7) hx hb htw uw_G hown hK hP (nm + j + 3) (ms_at hj) rfl 5 (by decide) (htw _ k_T_204) (fun _ h9 => h9) rfl d_T_actOn_58 ?_
      refine cm_V (n := 2) [.int (R (7 * j + 4)), .int (R (7 * j + 5))] hC (t_V_learnArrival l D cM cG cI cJ (pm i) F i _ (R (7 * j + 4)) (R (7 * j + 5)) ) ⟨kc_V_learnArrival, kn_V, k_T_214, ki_V_learnArrival, kv_V_learnArrival⟩ (by decide +kernel) ⟨rfl, rfl, Nat.le_of_ble_eq_true rfl, Nat.le_of_ble_eq_true rfl⟩ x_0 (yt_Y D cM cG cI cJ) hY trivial (va_recv hK hP (ci := 1) (q0 := (i + 3)) rfl (mv_at hi)) (wk_1 hP (mv_at hi)) (wk_1D trivial) hS (wk_F1 hD hS hA (mv_at hi)) rfl hl.1 rfl (Nat.le_of_ble_eq_true rfl) d_T_actOn_61 ⟨Nat.le_of_ble_eq_true rfl, Nat.le_of_ble_eq_true rfl⟩ (fun _ H locs _ hP1 hD1 hz9 hk9 hS => ?_)
      obtain ⟨hP, hD⟩ := jn_1 hP hD (mv_at hi) hk9 hP1
      rw [mv_set hi (fun k j hj => la_ni hj)] at hP hD
      have hP : va_P D cl_L (ws_C cM cG o am ag pm pg (off, nm, ng, now, la_F F i (R (7 * j + 4)) (R (7 * j + 5)), R)) H := hP
      have hD : va_D A (ws_C cM cG o am ag pm pg (off, nm, ng, now, la_F F i (R (7 * j + 4)) (R (7 * j + 5)), R)) := hD
      refine lv_goto (tgt := 102) hx hb d_T_actOn_64 (by decide) ?_
      subst hAe
      have e_S : ac_S (off, nm, ng, now, F, R) j = (off, nm, ng, now, la_F F i (R (7 * j + 4)) (R (7 * j + 5)), R) := by simp only [ac_S, if_neg e1, if_pos e2, hm]
      refine W.widen (k := 1) (n := 7) (by decide) (by decide) ?_
      exact W.vret hx hb hr (fun t ht hW => ⟨⟨pg, rfl, trivial, by rw [ht, e_S]; exact hP, by rw [e_S]; exact hD⟩, hS.F ht⟩) hS.2.2 d_T_actOn_102
    · by_cases e3 : (R (7 * j)) = 3
      · refine sk_as e3 ?_
        refine lv_tableIn (off := 63) (tgt := 67) hx hb d_T_actOn_4 (by decide) (by decide) rfl (by decide) ?_
        refine lv_aload_n hx hb d_T_actOn_67 rfl (lv_at hl 2 rfl) ?_
        refine lv_aload_n hx hb d_T_actOn_68 rfl (lv_at hl 1 rfl) ?_
        refine va_get (D := D) (C := R_G) (T := F_G) (N := 7) hx hb htw uw_G hown hK hP (nm + j + 3) (ms_at hj) rfl 4 (by decide) (htw _ k_T_201) (fun _ h9 => h9) rfl d_T_actOn_69 ?_
        refine lv_aload_n hx hb d_T_actOn_72 rfl (lv_at hl 1 rfl) ?_
        refine va_get (D := D) (C := R_G) (T := F_G) (N := 7) hx hb htw uw_G hown hK hP (nm + j + 3) (ms_at hj) rfl 5 (by decide) (htw _ k_T_204) (fun _ h9 => h9) rfl d_T_actOn_73 ?_
        refine cm_V (n := 2) [.int (R (7 * j + 4)), .int (R (7 * j + 5))] hC (t_V_learnResult l D cM cG cI cJ (pm i) F i _ (R (7 * j + 4)) (R (7 * j + 5)) ) ⟨kc_V_learnResult, kn_V, k_T_218, ki_V_learnResult, kv_V_learnResult⟩ (by decide +kernel) ⟨rfl, rfl, Nat.le_of_ble_eq_true rfl, Nat.le_of_ble_eq_true rfl⟩ x_0 (yt_Y D cM cG cI cJ) hY trivial (va_recv hK hP (ci := 1) (q0 := (i + 3)) rfl (mv_at hi)) (wk_1 hP (mv_at hi)) (wk_1D trivial) hS (wk_F1 hD hS hA (mv_at hi)) rfl hl.1 rfl (Nat.le_of_ble_eq_true rfl) d_T_actOn_76 ⟨Nat.le_of_ble_eq_true rfl, Nat.le_of_ble_eq_true rfl⟩ (fun _ H locs _ hP1 hD1 hz9 hk9 hS => ?_)
        obtain ⟨hP, hD⟩ := jn_1 hP hD (mv_at hi) hk9 hP1
        rw [mv_set hi (fun k j hj => lr_ni hj)] at hP hD
        have hP : va_P D cl_L (ws_C cM cG o am ag pm pg (off, nm, ng, now, lr_F F i (R (7 * j + 4)) (R (7 * j + 5)), R)) H := hP
        have hD : va_D A (ws_C cM cG o am ag pm pg (off, nm, ng, now, lr_F F i (R (7 * j + 4)) (R (7 * j + 5)), R)) := hD
        refine lv_goto (tgt := 102) hx hb d_T_actOn_79 (by decide) ?_
        subst hAe
        have e_S : ac_S (off, nm, ng, now, F, R) j = (off, nm, ng, now, lr_F F i (R (7 * j + 4)) (R (7 * j + 5)), R) := by simp only [ac_S, if_neg e1, if_neg e2, if_pos e3, hm]
        refine W.widen (k := 1) (n := 7) (by decide) (by decide) ?_
        exact W.vret hx hb hr (fun t ht hW => ⟨⟨pg, rfl, trivial, by rw [ht, e_S]; exact hP, by rw [e_S]; exact hD⟩, hS.F ht⟩) hS.2.2 d_T_actOn_102
      · by_cases e4 : (R (7 * j)) = 4
        · refine sk_as e4 ?_
          refine lv_tableIn (off := 78) (tgt := 82) hx hb d_T_actOn_4 (by decide) (by decide) rfl (by decide) ?_
          refine lv_aload_n hx hb d_T_actOn_82 rfl (lv_at hl 0 rfl) ?_
          refine lv_aload_n hx hb d_T_actOn_83 rfl (lv_at hl 1 rfl) ?_
          refine va_get (D := D) (C := R_G) (T := F_G) (N := 7) hx hb htw uw_G hown hK hP (nm + j + 3) (ms_at hj) rfl 1 (by decide) (htw _ k_T_125) (fun _ h9 => h9) rfl d_T_actOn_84 ?_
          refine lv_aload_n hx hb d_T_actOn_87 rfl (lv_at hl 2 rfl) ?_
          have hF9 := wk_F hD hS hA
          refine cm_V (n := 2) [.int (R (7 * j + 1)), .ref (pm i)] hC (t_T_answerEnquiry l D cM cG cI cJ o am ag pm pg off nm ng now F R _ (R (7 * j + 1)) i hi h8 h17 h18 (hg e4)) ⟨kc_T_answerEnquiry, kn_T, k_T_221, ki_T_answerEnquiry, kv_T_answerEnquiry⟩ (by decide +kernel) ⟨rfl, rfl, Nat.le_of_ble_eq_true rfl, Nat.le_of_ble_eq_true rfl⟩ x_0 (yt_Y D cM cG cI cJ) hY trivial (va_recv hK hP (ci := 0) (q0 := 0) rfl rfl) hP (wk_T hD) hS hF9 rfl hl.1 rfl (Nat.le_of_ble_eq_true rfl) d_T_actOn_88 ⟨Nat.le_of_ble_eq_true rfl, Nat.le_of_ble_eq_true rfl⟩ (fun pg5 H locs hw9 hP1 hD1 hz9 hk9 hS => ?_)
          have hP : va_P D cl_L (ws_C cM cG o am ag pm pg5 (off, nm, ng + 1, now, F, an_R F R ng i (R (7 * j + 1)))) H := hP1
          have hD : va_D A (ws_C cM cG o am ag pm pg5 (off, nm, ng + 1, now, F, an_R F R ng i (R (7 * j + 1)))) := wk_D hD1 hF9
          refine lv_goto (tgt := 102) hx hb d_T_actOn_91 (by decide) ?_
          subst hAe
          have e_S : ac_S (off, nm, ng, now, F, R) j = (off, nm, ng + 1, now, F, an_R F R ng i (R (7 * j + 1))) := by simp only [ac_S, if_neg e1, if_neg e2, if_neg e3, if_pos e4, hm]
          refine W.widen (k := 1) (n := 7) (by decide) (by decide) ?_
          exact W.vret hx hb hr (fun t ht hW => ⟨⟨pg5, rfl, trivial, by rw [ht, e_S]; exact hP, by rw [e_S]; exact hD⟩, hS.F ht⟩) hS.2.2 d_T_actOn_102
        · by_cases e6 : (R (7 * j)) = 5
          · refine sk_as e6 ?_
            refine lv_tableIn (off := 98) (tgt := 102) hx hb d_T_actOn_4 (by decide) (by decide) rfl (by decide) ?_
            subst hAe
            have e_S : ac_S (off, nm, ng, now, F, R) j = (off, nm, ng, now, F, R) := by simp only [ac_S, if_neg e1, if_neg e2, if_neg e3, if_neg e4, if_neg (show ¬ R (7 * j) = 6 by rw [e6]; decide), hm]
            refine W.widen (k := 1) (n := 7) (by decide) (by decide) ?_
            exact W.vret hx hb hr (fun t ht hW => ⟨⟨pg, rfl, trivial, by rw [ht, e_S]; exact hP, by rw [e_S]; exact hD⟩, hS.F ht⟩) hS.2.2 d_T_actOn_102
          · by_cases e7 : (R (7 * j)) = 6
            · refine sk_as e7 ?_
              refine lv_tableIn (off := 90) (tgt := 94) hx hb d_T_actOn_4 (by decide) (by decide) rfl (by decide) ?_
              refine lv_aload_n hx hb d_T_actOn_94 rfl (lv_at hl 2 rfl) ?_
              refine lv_iconst (v := 1) hx hb d_T_actOn_95 (by decide) ?_
              refine va_put (D := D) (ci := 1) (v := .int 1) (ty := .boolean) (C := R_V) (T := F_V) (N := 19) hx hb htw uw_V ft_V tk_V n_V hown hK hP hD hS (i + 3) (mv_at hi) rfl 18 (by decide) (htw _ k_T_190) (fun _ h9 => h9) rfl (by decide +kernel) rfl rfl (Nat.le_of_ble_eq_true rfl) d_T_actOn_96 (fun H locs hP hD hS => ?_)
              rw [mv_put hi (by decide)] at hP hD
              have hP : va_P D cl_L (ws_C cM cG o am ag pm pg (off, nm, ng, now, up_F F 18 i 1, R)) H := hP
              have hD : va_D A (ws_C cM cG o am ag pm pg (off, nm, ng, now, up_F F 18 i 1, R)) := hD
              refine lv_goto (tgt := 102) hx hb d_T_actOn_99 (by decide) ?_
              subst hAe
              have e_S : ac_S (off, nm, ng, now, F, R) j = (off, nm, ng, now, up_F F 18 i 1, R) := by simp only [ac_S, if_neg e1, if_neg e2, if_neg e3, if_neg e4, if_pos e7, hm]
              refine W.widen (k := 1) (n := 7) (by decide) (by decide) ?_
              exact W.vret hx hb hr (fun t ht hW => ⟨⟨pg, rfl, trivial, by rw [ht, e_S]; exact hP, by rw [e_S]; exact hD⟩, hS.F ht⟩) hS.2.2 d_T_actOn_102
            · refine lv_tableOut (tgt := 102) hx hb d_T_actOn_4 (by have := ne_I (n := 1) e1; have := ne_I (n := 2) e2; have := ne_I (n := 3) e3; have := ne_I (n := 4) e4; have := ne_I (n := 5) e6; have := ne_I (n := 6) e7; omega) (by decide) ?_
              subst hAe
              have e_S : ac_S (off, nm, ng, now, F, R) j = (off, nm, ng, now, F, R) := by simp only [ac_S, if_neg e1, if_neg e2, if_neg e3, if_neg e4, if_neg e7, hm]
              refine W.widen (k := 1) (n := 7) (by decide) (by decide) ?_
              exact W.vret hx hb hr (fun t ht hW => ⟨⟨pg, rfl, trivial, by rw [ht, e_S]; exact hP, by rw [e_S]; exact hD⟩, hS.F ht⟩) hS.2.2 d_T_actOn_102
