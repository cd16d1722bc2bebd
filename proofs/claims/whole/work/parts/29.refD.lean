theorem dm_en {d c : Int32} {i g : Nat} {F : Nat → Nat → Int32} {R : Nat → Int32} (h : is_en (F 10 i)) (hq : ¬ (is_eq d (F 2 i) ∧ is_aw (F 10 i))) : dy_m d i (g, c, F, R) = (g, c, F, R) := by
  simp only [dy_m]
  by_cases h40 : d = F 2 i + 40
  · rw [if_pos h40, if_pos h]
  · rw [if_neg h40, if_neg hq]
set_option maxHeartbeats 4000000 in
set_option maxRecDepth 100000 in
theorem t_N_tick (l : Launch) (D : va_G) (cM cG cI cJ : ClassId) (r rr : Nat) (ra : Nat → Nat) (th : Int32) (Sr : Nat → Int32) (off : Int32) (nm ng : Nat) (now : Int32) (F : Nat → Nat → Int32) (R : Nat → Int32) (sz : Nat) (x : Int32) (t9 : Nat) (hI : iv_S t9 (off, nm, ng, now, F, R)) (hSr : sr_P Sr (off, nm, ng, now, F, R)) : Met l y_N_tick (Cond.code y_N_tick c_N_tick 8 (some .int) :: tw_L) ({ frames := 1, cells := 0, slots := 0, locals := 27 } : Room) (mu_P D (ws_N cI r rr ra th Sr (off, nm, ng, now, F, R)) sz (fun _ _ => True) (yt_P D cM cG cI cJ) [.ref r, .int x]) (va_Qi (fun (v : Int32) (S1 : Nat → Int32) => ((sp_ti (off, nm, ng, now, F, R) x).1 = 0 → v = (sp_ti (off, nm, ng, now, F, R) x).2.1) ∧ sr_P S1 (sp_ti (off, nm, ng, now, F, R) x).2.2) (mu_B D (ws_N cI r rr ra th Sr (off, nm, ng, now, F, R)) sz (fun S1 => ws_N cI r rr ra (sp_ti (off, nm, ng, now, F, R) x).1 S1 (sp_ti (off, nm, ng, now, F, R) x).2.2)) (va_A (ws_N cI r rr ra th Sr (off, nm, ng, now, F, R)) sz)) 0 0 (va_A (ws_N cI r rr ra th Sr (off, nm, ng, now, F, R)) sz) := by
  refine Met.ofW (cc := c_N_tick) (maxL := 8) (ret := (some .int)) (by decide) rfl ?_
  intro p e s m args below meth c s₁ B hml hv
  obtain ⟨rfl, hsz, hP, hD0, hX, hY⟩ := hv
  have hx := B.exec
  have hb := B.bytes
  have hr := B.returns
  have htw : ∀ w ∈ tw_L, w.before _ s = true := fun w hw => atoms_spec (ws := (Cond.code y_N_tick c_N_tick 8 (some .int) :: tw_L)) B.pre w (List.mem_cons_of_mem _ hw)
  have hown : s.vm.findClass R_N = some m.cls := findClass_of_methodNamed B.named
  have hlocks := B.notSynchronized
  have hC : CallFix p m c c_N_tick 8 s _ tw_L R_N := ⟨hx, hb, hml, hown, htw⟩
  have hK := hY.1
  have hl := lv_entry ([.ref r, .int x]) (n := 8) (Nat.le_of_ble_eq_true rfl)
  rw [lg_entry_eq]
  generalize (lg_sl ([.ref r, .int x]) ++ List.replicate (8 - (lg_sl ([.ref r, .int x])).length) Slot.unset).toArray = ls at hl ⊢
  have hl : lv_has ls 8 [(0, .ref r), (1, .int x)] := hl
  subst hsz
  obtain ⟨A, hAe⟩ : ∃ A : Nat → Prop, A = va_A (ws_N cI r rr ra th Sr (off, nm, ng, now, F, R)) s.heap.size := ⟨_, rfl⟩
  have hD : va_D A (ws_N cI r rr ra th Sr (off, nm, ng, now, F, R)) := by rw [hAe]; exact hD0.self
  have hA : ∀ q : Nat, s.heap.size ≤ q → A q := fun q h => by rw [hAe]; exact Or.inr h
  have hS : va_S A s.heap s.heap [] := va_S.rf
  obtain ⟨hof, hn20, hnow, ht4, hM, hZ, hG, hcn⟩ := id hI
  have hg200 : ng ≤ 200 := by have := cn_0 hM hcn; omega
  refine lv_aload_n hx hb d_N_tick_0 rfl (lv_at hl 0 rfl) ?_
  refine lv_iload_n hx hb d_N_tick_1 rfl (lv_at hl 1 rfl) ?_
  refine lv_aload_n hx hb d_N_tick_2 rfl (lv_at hl 0 rfl) ?_
  refine va_get (D := D) (C := R_N) (T := F_N) (N := 25) hx hb htw uw_N hown hK hP 0 rfl rfl 4 (by decide) (htw _ k_N_87) (fun _ h9 => h9) rfl d_N_tick_3 ?_
  refine lv_sipush (v := 10000) hx hb d_N_tick_6 (by decide) ?_
  refine cp_S (n := 3) [.int x, .int now, .int 10000] hC (t_N_in l D cM cG cI cJ x now 10000) ⟨kc_N_in, kn_N, k_N_90, ks_N_in⟩ (by decide +kernel) ⟨rfl, rfl, Nat.le_of_ble_eq_true rfl, Nat.le_of_ble_eq_true rfl⟩ x_0 (yt_Y D cM cG cI cJ) hY trivial rfl hl.1 rfl (Nat.le_of_ble_eq_true rfl) d_N_tick_9 ⟨Nat.le_of_ble_eq_true rfl, Nat.le_of_ble_eq_true rfl⟩ (fun r1 h2 => ?_)
  rcases h2 with ⟨rfl, b3⟩ | ⟨rfl, b3⟩
  · refine lv_if_eq (tgt := 19) hx hb d_N_tick_12 (by decide) (fun q9 => absurd q9 (by decide)) (fun _ => ?_)
    refine lv_iconst (v := 0) hx hb d_N_tick_15 (by decide) ?_
    refine lv_goto (tgt := 20) hx hb d_N_tick_16 (by decide) ?_
    refine va_put (D := D) (ci := 3) (v := .int 0) (ty := .int) (C := R_N) (T := F_N) (N := 25) hx hb htw uw_N ft_N tk_N n_N hown hK hP hD hS 0 rfl rfl 0 (by decide) (htw _ k_N_74) (fun _ h9 => h9) rfl (by decide +kernel) rfl rfl (Nat.le_of_ble_eq_true rfl) d_N_tick_20 (fun H locs hP hD hS => ?_)
    have hP : va_P D cl_L (ws_N cI r rr ra 0 Sr (off, nm, ng, now, F, R)) H := hP
    have hD : va_D A (ws_N cI r rr ra 0 Sr (off, nm, ng, now, F, R)) := hD
    refine lv_aload_n hx hb d_N_tick_23 rfl (lv_at hl 0 rfl) ?_
    refine va_get (D := D) (C := R_N) (T := F_N) (N := 25) hx hb htw uw_N hown hK hP 0 rfl rfl 0 (by decide) (htw _ k_N_74) (fun _ h9 => h9) rfl d_N_tick_24 ?_
    refine lv_if_le (tgt := 32) hx hb d_N_tick_27 (by decide) (fun _ => ?_) (fun q9 => (q9 (by decide)).elim)
    obtain ⟨T, hT1, hT2, hxT⟩ := tk_x ht4 (show is_wi x (nI t9) 10000 by rw [← hnow]; exact b3)
    refine lv_iconst (v := 0) hx hb d_N_tick_32 (by decide) ?_
    refine lv_istore_n (lv' := [(2, .int 0), (0, .ref r), (1, .int x)]) hx hb d_N_tick_33 rfl hl (by decide) rfl (fun ls hl => ?_)
    refine lv_aload_n hx hb d_N_tick_34 rfl (lv_at hl 1 rfl) ?_
    refine va_get (D := D) (C := R_N) (T := F_N) (N := 25) hx hb htw uw_N hown hK hP 0 rfl rfl 4 (by decide) (htw _ k_N_87) (fun _ h9 => h9) rfl d_N_tick_35 ?_
    refine lv_iconst (v := 1) hx hb d_N_tick_38 (by decide) ?_
    refine lv_iadd hx hb d_N_tick_39 ?_
    refine lv_istore_n (lv' := [(3, .int (now + 1)), (2, .int 0), (0, .ref r), (1, .int x)]) hx hb d_N_tick_40 rfl hl (by decide) rfl (fun ls hl => ?_)
    replace hl : lv_has ls 8 [(0, .ref r), (1, .int x), (2, .int 0), (3, .int (now + 1))] := lv_sub hl [2, 3, 1, 0] rfl
    rw [show now + 1 = nI (t9 + 1) by rw [hnow]; exact nI_1 t9] at hl
    obtain ⟨u, g, ct, F1, R1, hu1, hu2, hdy, hP9, hD9, hl9⟩ : ∃ (u g : Nat) (ct : Int32) (F1 : Nat → Nat → Int32) (R1 : Nat → Int32), t9 ≤ u ∧ u ≤ T ∧ dy_s nm t9 (u - t9) (ng, 0, F, R) = (g, ct, F1, R1) ∧ va_P D cl_L (ws_N cI r rr ra 0 Sr (off, nm, g, now, F1, R1)) H ∧ va_D A (ws_N cI r rr ra 0 Sr (off, nm, g, now, F1, R1)) ∧ lv_has ls 8 [(0, .ref r), (1, .int x), (2, .int ct), (3, .int (nI (u + 1)))] := ⟨t9, ng, 0, F, R, Nat.le_refl _, hT1, by rw [Nat.sub_self]; rfl, hP, hD, hl⟩
    clear hl
    repeat clear hP
    repeat clear hD
    have hP := hP9
    have hD := hD9
    have hl := hl9
    clear hP9 hD9 hl9
    obtain ⟨n9, hn9⟩ : ∃ n9 : Nat, 10000 + 1 ≤ u + n9 := ⟨10000 + 1, by omega⟩
    induction n9 generalizing u g ct F1 R1 H locs ls with
    | zero => exfalso; omega
    | succ n9 ih =>
      refine lv_iload_n hx hb d_N_tick_41 rfl (lv_at hl 3 rfl) ?_
      refine lv_iload_n hx hb d_N_tick_42 rfl (lv_at hl 1 rfl) ?_
      refine lv_icmp_gt (tgt := 256) hx hb d_N_tick_43 (by decide) (fun c4 => ?_) (fun c4 => ?_)
      · have huT : u = T := by have a2 := c4; rw [hxT, i_lt, i_nI (by omega), i_nI (by omega)] at a2; omega
        subst huT
        refine lv_aload_n hx hb d_N_tick_256 rfl (lv_at hl 0 rfl) ?_
        refine lv_iload_n hx hb d_N_tick_257 rfl (lv_at hl 1 rfl) ?_
        refine va_put (D := D) (ci := 3) (v := .int x) (ty := .int) (C := R_N) (T := F_N) (N := 25) hx hb htw uw_N ft_N tk_N n_N hown hK hP hD hS 0 rfl rfl 4 (by decide) (htw _ k_N_87) (fun _ h9 => h9) rfl (by decide +kernel) rfl rfl (Nat.le_of_ble_eq_true rfl) d_N_tick_258 (fun H locs hP hD hS => ?_)
        have hP : va_P D cl_L (ws_N cI r rr ra 0 Sr (off, nm, g, x, F1, R1)) H := hP
        have hD : va_D A (ws_N cI r rr ra 0 Sr (off, nm, g, x, F1, R1)) := hD
        refine lv_iload_n hx hb d_N_tick_261 rfl (lv_at hl 2 rfl) ?_
        subst hAe
        have e_S : sp_ti (off, nm, ng, now, F, R) x = (0, ct, (off, nm, g, x, F1, R1)) := by simp only [sp_ti]; rw [if_pos b3, hnow, nI_clamp (show t9 < 2 ^ 31 by omega), show x.toNatClampNeg = u by rw [hxT, nI_clamp (show u < 2 ^ 31 by omega)], hdy]
        exact W.iret (v := ct) hx hb hr (fun t ht hW => ⟨⟨_, Sr, rfl, ⟨fun _ => by rw [e_S], by rw [e_S]; exact sr_ti hSr hdy⟩, by rw [ht, e_S]; exact hP, by rw [e_S]; exact hD⟩, hS.F ht⟩) hS.2.2 d_N_tick_262
      · have huT : u + 1 ≤ T := by have a2 := c4; rw [hxT, i_lt, i_nI (by omega), i_nI (by omega)] at a2; omega
        have iv9 := iv_s (c := 0) hn20 hM hZ hG hcn (u - t9) (by omega)
        rw [hdy, show t9 + (u - t9) = u by omega] at iv9
        obtain ⟨iM, iZ, iG, iC⟩ := iv9
        have ivd : iv_d off nm (u + 1) 0 g F1 R1 := dv_0 (by omega) (fun i hi => im_t (by omega) (iM i hi)) iZ iG iC
        have hdk : ∀ k, k ≤ nm → iv_d off nm (u + 1) k (dy_d (nI (u + 1)) k (g, ct, F1, R1)).1 (dy_d (nI (u + 1)) k (g, ct, F1, R1)).2.2.1 (dy_d (nI (u + 1)) k (g, ct, F1, R1)).2.2.2 := fun k hk => dv_d hn20 (by omega) (by omega) ivd k hk
        have hstep : ∀ y, dy_d (nI (u + 1)) nm (g, ct, F1, R1) = y → dy_s nm t9 (u + 1 - t9) (ng, 0, F, R) = y := fun y hy => by rw [show u + 1 - t9 = (u - t9) + 1 by omega]; show dy_d (nI (t9 + (u - t9) + 1)) nm (dy_s nm t9 (u - t9) (ng, 0, F, R)) = y; rw [hdy, show t9 + (u - t9) + 1 = u + 1 by omega]; exact hy
        clear iM iZ iG iC ivd
        refine lv_iconst (v := 0) hx hb d_N_tick_46 (by decide) ?_
        refine lv_istore (lv' := [(4, .int 0), (0, .ref r), (1, .int x), (2, .int ct), (3, .int (nI (u + 1)))]) hx hb d_N_tick_47 hl (by decide) rfl (fun ls hl => ?_)
        replace hl : lv_has ls 8 [(0, .ref r), (1, .int x), (2, .int ct), (3, .int (nI (u + 1))), (4, .int (nI 0))] := lv_sub hl [1, 2, 3, 4, 0] rfl
        obtain ⟨k, g2, c2, F2, R2, hk, hdd, hP9, hD9, hl9⟩ : ∃ (k g2 : Nat) (c2 : Int32) (F2 : Nat → Nat → Int32) (R2 : Nat → Int32), k ≤ nm ∧ dy_d (nI (u + 1)) k (g, ct, F1, R1) = (g2, c2, F2, R2) ∧ va_P D cl_L (ws_N cI r rr ra 0 Sr (off, nm, g2, now, F2, R2)) H ∧ va_D A (ws_N cI r rr ra 0 Sr (off, nm, g2, now, F2, R2)) ∧ lv_has ls 8 [(0, .ref r), (1, .int x), (2, .int c2), (3, .int (nI (u + 1))), (4, .int (nI k))] := ⟨0, g, ct, F1, R1, Nat.zero_le _, rfl, hP, hD, hl⟩
        clear hl
        repeat clear hP
        repeat clear hD
        have hP := hP9
        have hD := hD9
        have hl := hl9
        clear hP9 hD9 hl9
        obtain ⟨n8, hn8⟩ : ∃ n8 : Nat, nm + 1 ≤ k + n8 := ⟨nm + 1, by omega⟩
        induction n8 generalizing k g2 c2 F2 R2 H locs ls with
        | zero => exfalso; omega
        | succ n8 ih8 =>
          refine lv_iload hx hb d_N_tick_49 (lv_at hl 4 rfl) ?_
          refine lv_aload_n hx hb d_N_tick_51 rfl (lv_at hl 0 rfl) ?_
          refine va_get (D := D) (C := R_N) (T := F_N) (N := 25) hx hb htw uw_N hown hK hP 0 rfl rfl 2 (by decide) (htw _ k_N_77) (fun _ h9 => h9) rfl d_N_tick_52 ?_
          refine lv_icmp_ge (tgt := 250) hx hb d_N_tick_55 (by decide) (fun c5 => ?_) (fun c5 => ?_)
          · have hkn : k = nm := by have := lp_ge (n := nm) c5 (by omega) (i_nI (by omega)); omega
            subst hkn
            have hdy2 := hstep _ hdd
            refine lv_iinc (v := nI (u + 1 + 1)) (lv' := [(3, .int (nI (u + 1 + 1))), (0, .ref r), (1, .int x), (2, .int c2), (4, .int (nI k))]) hx hb d_N_tick_250 hl (k := 3) rfl (nI_1 (u + 1)) (by decide) rfl (fun ls hl => ?_)
            refine lv_goto (tgt := 41) hx hb d_N_tick_253 (by decide) ?_
            exact ih H locs hS ls (u + 1) g2 c2 F2 R2 (by omega) (by omega) hdy2 hP hD (lv_sub hl [1, 2, 3, 0] rfl) (by omega)
          · have hk9 : k < nm := lp_lt (n := nm) c5 (by omega) (i_nI (by omega))
            have hk20 : k < 20 := by omega
            have ivk := hdk k hk
            rw [hdd] at ivk
            have hMk : iv_m off (u + 1) F2 k := im_t (by split <;> omega) (ivk.1 k hk9)
            have hg2 : g2 ≤ 200 := by have a1 : ∀ i, i < nm → iv_m off (u + 1) F2 i := fun i hi => im_t (by split <;> omega) (ivk.1 i hi); have := cn_0 a1 ivk.2.2.2; omega
            refine lv_iload_n hx hb d_N_tick_58 rfl (lv_at hl 3 rfl) ?_
            refine lv_aload_n hx hb d_N_tick_59 rfl (lv_at hl 0 rfl) ?_
            refine va_get (D := D) (C := R_N) (T := F_N) (N := 25) hx hb htw uw_N hown hK hP 0 rfl rfl 7 (by decide) (htw _ k_N_16) (fun _ h9 => h9) rfl d_N_tick_60 ?_
            refine lv_iload hx hb d_N_tick_63 (lv_at hl 4 rfl) ?_
            refine ar_ld hx hb hK hP 4 2 rfl rfl hk20 (by decide) d_N_tick_65 ?_
            refine lv_isub hx hb d_N_tick_66 ?_
            refine lv_istore (lv' := [(5, .int ((nI (u + 1)) - (F2 2 k))), (0, .ref r), (1, .int x), (2, .int c2), (3, .int (nI (u + 1))), (4, .int (nI k))]) hx hb d_N_tick_67 hl (by decide) rfl (fun ls hl => ?_)
            refine lv_aload_n hx hb d_N_tick_69 rfl (lv_at hl 1 rfl) ?_
            refine lv_iload hx hb d_N_tick_70 (lv_at hl 5 rfl) ?_
            refine cp_V (n := 1) [.int (nI k)] hC (t_N_isWaiting l D cM cG cI cJ r rr ra 0 Sr off nm g2 now F2 R2 k hk20) ⟨kc_N_isWaiting, kn_N, k_N_110, ki_N_isWaiting, kv_N_isWaiting⟩ (by decide +kernel) ⟨rfl, rfl, Nat.le_of_ble_eq_true rfl, Nat.le_of_ble_eq_true rfl⟩ x_0 (yt_Y D cM cG cI cJ) hY hP (va_recv hK hP (ci := 3) (q0 := 0) rfl rfl) rfl hl.1 rfl (Nat.le_of_ble_eq_true rfl) d_N_tick_72 ⟨Nat.le_of_ble_eq_true rfl, Nat.le_of_ble_eq_true rfl⟩ (fun r6 h7 => ?_)
            rcases h7 with ⟨rfl, b8⟩ | ⟨rfl, b8⟩
            · have b8 : is_aw (F2 10 k) := b8
              refine lv_if_eq (tgt := 150) hx hb d_N_tick_75 (by decide) (fun q9 => absurd q9 (by decide)) (fun _ => ?_)
              refine lv_iload hx hb d_N_tick_78 (lv_at hl 0 rfl) ?_
              refine lv_bipush (v := 10) hx hb d_N_tick_80 (by decide) ?_
              refine lv_icmp_eq (tgt := 99) hx hb d_N_tick_82 (by decide) (fun c9 => ?_) (fun c9 => ?_)
              · refine lv_aload_n hx hb d_N_tick_99 rfl (lv_at hl 1 rfl) ?_
                refine va_get (D := D) (C := R_N) (T := F_N) (N := 25) hx hb htw uw_N hown hK hP 0 rfl rfl 18 (by decide) (htw _ k_N_49) (fun _ h9 => h9) rfl d_N_tick_100 ?_
                refine lv_iload hx hb d_N_tick_103 (lv_at hl 5 rfl) ?_
                refine lv_dup2_11 hx hb d_N_tick_105 rfl rfl ?_
                refine ar_ld hx hb hK hP 15 2 rfl rfl hk20 (by decide) d_N_tick_106 ?_
                refine lv_iconst (v := 1) hx hb d_N_tick_107 (by decide) ?_
                refine lv_iadd hx hb d_N_tick_108 ?_
                refine ar_st hx hb hK hP hD hS 15 2 rfl rfl hk20 (by decide) d_N_tick_109 (fun H locs hP hD hS => ?_)
                have hP : va_P D cl_L (ws_N cI r rr ra 0 Sr (off, nm, g2, now, up_F F2 13 k ((F2 13 k) + 1), R2)) H := hP
                have hD : va_D A (ws_N cI r rr ra 0 Sr (off, nm, g2, now, up_F F2 13 k ((F2 13 k) + 1), R2)) := hD
                refine lv_aload_n hx hb d_N_tick_110 rfl (lv_at hl 1 rfl) ?_
                refine va_get (D := D) (C := R_N) (T := F_N) (N := 25) hx hb htw uw_N hown hK hP 0 rfl rfl 15 (by decide) (htw _ k_N_40) (fun _ h9 => h9) rfl d_N_tick_111 ?_
                refine lv_iload hx hb d_N_tick_114 (lv_at hl 5 rfl) ?_
                refine lv_iconst (v := 4) hx hb d_N_tick_116 (by decide) ?_
                refine ar_st hx hb hK hP hD hS 12 2 rfl rfl hk20 (by decide) d_N_tick_117 (fun H locs hP hD hS => ?_)
                have hP : va_P D cl_L (ws_N cI r rr ra 0 Sr (off, nm, g2, now, up_F (up_F F2 13 k ((F2 13 k) + 1)) 10 k 4, R2)) H := hP
                have hD : va_D A (ws_N cI r rr ra 0 Sr (off, nm, g2, now, up_F (up_F F2 13 k ((F2 13 k) + 1)) 10 k 4, R2)) := hD
                refine lv_aload_n hx hb d_N_tick_118 rfl (lv_at hl 1 rfl) ?_
                refine lv_iconst (v := 4) hx hb d_N_tick_119 (by decide) ?_
                refine lv_iload hx hb d_N_tick_120 (lv_at hl 5 rfl) ?_
                refine lv_aload_n hx hb d_N_tick_122 rfl (lv_at hl 1 rfl) ?_
                refine va_get (D := D) (C := R_N) (T := F_N) (N := 25) hx hb htw uw_N hown hK hP 0 rfl rfl 5 (by decide) (htw _ k_N_7) (fun _ h9 => h9) rfl d_N_tick_123 ?_
                refine lv_iload hx hb d_N_tick_126 (lv_at hl 5 rfl) ?_
                refine ar_ld hx hb hK hP 2 2 rfl rfl hk20 (by decide) d_N_tick_128 ?_
                refine lv_aload_n hx hb d_N_tick_129 rfl (lv_at hl 1 rfl) ?_
                refine va_get (D := D) (C := R_N) (T := F_N) (N := 25) hx hb htw uw_N hown hK hP 0 rfl rfl 6 (by decide) (htw _ k_N_13) (fun _ h9 => h9) rfl d_N_tick_130 ?_
                refine lv_iload hx hb d_N_tick_133 (lv_at hl 5 rfl) ?_
                refine ar_ld hx hb hK hP 3 2 rfl rfl hk20 (by decide) d_N_tick_135 ?_
                refine lv_aload_n hx hb d_N_tick_136 rfl (lv_at hl 1 rfl) ?_
                refine va_get (D := D) (C := R_N) (T := F_N) (N := 25) hx hb htw uw_N hown hK hP 0 rfl rfl 18 (by decide) (htw _ k_N_49) (fun _ h9 => h9) rfl d_N_tick_137 ?_
                refine lv_iload hx hb d_N_tick_140 (lv_at hl 5 rfl) ?_
                refine ar_ld hx hb hK hP 15 2 rfl rfl hk20 (by decide) d_N_tick_142 ?_
                refine sk_as (y := ((F2 13 k) + 1)) (by simp [up_at]) ?_
                refine lv_iconst (v := 0) hx hb d_N_tick_143 (by decide) ?_
                have hF9 := wk_F hD hS hA
                refine cm_V (n := 6) [.int 4, .int (nI k), .int (F2 0 k), .int (F2 1 k), .int ((F2 13 k) + 1), .int 0] hC (t_N_send l D cM cG cI cJ r rr ra 0 Sr off nm g2 now (up_F (up_F F2 13 k ((F2 13 k) + 1)) 10 k 4) R2 _ 4 (nI k) (F2 0 k) (F2 1 k) ((F2 13 k) + 1) 0 (show g2 < 400 by omega)) ⟨kc_N_send, kn_N, k_N_96, ki_N_send, kv_N_send⟩ (by decide +kernel) ⟨rfl, rfl, Nat.le_of_ble_eq_true rfl, Nat.le_of_ble_eq_true rfl⟩ x_0 (yt_Y D cM cG cI cJ) hY trivial (va_recv hK hP (ci := 3) (q0 := 0) rfl rfl) hP (wk_T hD) hS hF9 rfl hl.1 rfl (Nat.le_of_ble_eq_true rfl) d_N_tick_144 ⟨Nat.le_of_ble_eq_true rfl, Nat.le_of_ble_eq_true rfl⟩ (fun _ H locs _ hP1 hD1 hz9 hk9 hS => ?_)
                have hP : va_P D cl_L (ws_N cI r rr ra 0 Sr (off, nm, g2 + 1, now, up_F (up_F F2 13 k ((F2 13 k) + 1)) 10 k 4, sn_R R2 g2 4 (nI k) (F2 0 k) (F2 1 k) ((F2 13 k) + 1) 0)) H := hP1
                have hD : va_D A (ws_N cI r rr ra 0 Sr (off, nm, g2 + 1, now, up_F (up_F F2 13 k ((F2 13 k) + 1)) 10 k 4, sn_R R2 g2 4 (nI k) (F2 0 k) (F2 1 k) ((F2 13 k) + 1) 0)) := wk_D hD1 hF9
                refine lv_iinc (v := c2 + 1) (lv' := [(2, .int (c2 + 1)), (5, .int ((nI (u + 1)) - (F2 2 k))), (0, .ref r), (1, .int x), (3, .int (nI (u + 1))), (4, .int (nI k))]) hx hb d_N_tick_147 hl (k := 3) rfl rfl (by decide) rfl (fun ls hl => ?_)
                refine lv_aload_n hx hb d_N_tick_150 rfl (lv_at hl 2 rfl) ?_
                refine va_get (D := D) (C := R_N) (T := F_N) (N := 25) hx hb htw uw_N hown hK hP 0 rfl rfl 15 (by decide) (htw _ k_N_40) (fun _ h9 => h9) rfl d_N_tick_151 ?_
                refine lv_iload hx hb d_N_tick_154 (lv_at hl 5 rfl) ?_
                refine ar_ld hx hb hK hP 12 2 rfl rfl hk20 (by decide) d_N_tick_156 ?_
                refine sk_as (y := 4) (by simp [up_at]) ?_
                refine lv_iconst (v := 5) hx hb d_N_tick_157 (by decide) ?_
                refine lv_icmp_ge (tgt := 244) hx hb d_N_tick_158 (by decide) (fun c10 => absurd c10 (show ¬ (5 : Int32) ≤ 4 by decide)) (fun _ => ?_)
                refine lv_iload hx hb d_N_tick_161 (lv_at hl 1 rfl) ?_
                refine lv_bipush (v := 40) hx hb d_N_tick_163 (by decide) ?_
                refine lv_icmp_ne (tgt := 244) hx hb d_N_tick_165 (by decide) (fun _ => ?_) (fun c11 => absurd c11 (show ¬ nI (u + 1) - F2 2 k = 40 by rw [c9]; decide))
                refine lv_iinc (v := nI (k + 1)) (lv' := [(4, .int (nI (k + 1))), (2, .int (c2 + 1)), (5, .int ((nI (u + 1)) - (F2 2 k))), (0, .ref r), (1, .int x), (3, .int (nI (u + 1)))]) hx hb d_N_tick_244 hl (k := 5) rfl (nI_1 k) (by decide) rfl (fun ls hl => ?_)
                refine lv_goto (tgt := 49) hx hb d_N_tick_247 (by decide) ?_
                have e_D : dy_m (nI (u + 1)) k (g2, c2, F2, R2) = (g2 + 1, (c2 + 1), up_F (up_F F2 13 k ((F2 13 k) + 1)) 10 k 4, sn_R R2 g2 4 (nI k) (F2 0 k) (F2 1 k) ((F2 13 k) + 1) 0) := dm_eq (fun z => absurd ((sb_e.mpr z).symm.trans c9) (by decide)) (Or.inl (sb_e.mp (show nI (u + 1) - F2 2 k = 10 from c9))) b8
                exact ih8 H locs hS ls (k + 1) (g2 + 1) ((c2 + 1)) (up_F (up_F F2 13 k ((F2 13 k) + 1)) 10 k 4) (sn_R R2 g2 4 (nI k) (F2 0 k) (F2 1 k) ((F2 13 k) + 1) 0) (by omega) (by show dy_m (nI (u + 1)) k (dy_d (nI (u + 1)) k (g, ct, F1, R1)) = _; rw [hdd]; exact e_D) hP hD (lv_sub hl [3, 4, 1, 5, 0] rfl) (by omega)
              · refine lv_iload hx hb d_N_tick_85 (lv_at hl 0 rfl) ?_
                refine lv_bipush (v := 15) hx hb d_N_tick_87 (by decide) ?_
                refine lv_icmp_eq (tgt := 99) hx hb d_N_tick_89 (by decide) (fun c12 => ?_) (fun c12 => ?_)
                · refine lv_aload_n hx hb d_N_tick_99 rfl (lv_at hl 1 rfl) ?_
                  refine va_get (D := D) (C := R_N) (T := F_N) (N := 25) hx hb htw uw_N hown hK hP 0 rfl rfl 18 (by decide) (htw _ k_N_49) (fun _ h9 => h9) rfl d_N_tick_100 ?_
                  refine lv_iload hx hb d_N_tick_103 (lv_at hl 5 rfl) ?_
                  refine lv_dup2_11 hx hb d_N_tick_105 rfl rfl ?_
                  refine ar_ld hx hb hK hP 15 2 rfl rfl hk20 (by decide) d_N_tick_106 ?_
                  refine lv_iconst (v := 1) hx hb d_N_tick_107 (by decide) ?_
                  refine lv_iadd hx hb d_N_tick_108 ?_
                  refine ar_st hx hb hK hP hD hS 15 2 rfl rfl hk20 (by decide) d_N_tick_109 (fun H locs hP hD hS => ?_)
                  have hP : va_P D cl_L (ws_N cI r rr ra 0 Sr (off, nm, g2, now, up_F F2 13 k ((F2 13 k) + 1), R2)) H := hP
                  have hD : va_D A (ws_N cI r rr ra 0 Sr (off, nm, g2, now, up_F F2 13 k ((F2 13 k) + 1), R2)) := hD
                  refine lv_aload_n hx hb d_N_tick_110 rfl (lv_at hl 1 rfl) ?_
                  refine va_get (D := D) (C := R_N) (T := F_N) (N := 25) hx hb htw uw_N hown hK hP 0 rfl rfl 15 (by decide) (htw _ k_N_40) (fun _ h9 => h9) rfl d_N_tick_111 ?_
                  refine lv_iload hx hb d_N_tick_114 (lv_at hl 5 rfl) ?_
                  refine lv_iconst (v := 4) hx hb d_N_tick_116 (by decide) ?_
                  refine ar_st hx hb hK hP hD hS 12 2 rfl rfl hk20 (by decide) d_N_tick_117 (fun H locs hP hD hS => ?_)
                  have hP : va_P D cl_L (ws_N cI r rr ra 0 Sr (off, nm, g2, now, up_F (up_F F2 13 k ((F2 13 k) + 1)) 10 k 4, R2)) H := hP
                  have hD : va_D A (ws_N cI r rr ra 0 Sr (off, nm, g2, now, up_F (up_F F2 13 k ((F2 13 k) + 1)) 10 k 4, R2)) := hD
                  refine lv_aload_n hx hb d_N_tick_118 rfl (lv_at hl 1 rfl) ?_
                  refine lv_iconst (v := 4) hx hb d_N_tick_119 (by decide) ?_
                  refine lv_iload hx hb d_N_tick_120 (lv_at hl 5 rfl) ?_
                  refine lv_aload_n hx hb d_N_tick_122 rfl (lv_at hl 1 rfl) ?_
                  refine va_get (D := D) (C := R_N) (T := F_N) (N := 25) hx hb htw uw_N hown hK hP 0 rfl rfl 5 (by decide) (htw _ k_N_7) (fun _ h9 => h9) rfl d_N_tick_123 ?_
                  refine lv_iload hx hb d_N_tick_126 (lv_at hl 5 rfl) ?_
                  refine ar_ld hx hb hK hP 2 2 rfl rfl hk20 (by decide) d_N_tick_128 ?_
                  refine lv_aload_n hx hb d_N_tick_129 rfl (lv_at hl 1 rfl) ?_
                  refine va_get (D := D) (C := R_N) (T := F_N) (N := 25) hx hb htw uw_N hown hK hP 0 rfl rfl 6 (by decide) (htw _ k_N_13) (fun _ h9 => h9) rfl d_N_tick_130 ?_
                  refine lv_iload hx hb d_N_tick_133 (lv_at hl 5 rfl) ?_
                  refine ar_ld hx hb hK hP 3 2 rfl rfl hk20 (by decide) d_N_tick_135 ?_
                  refine lv_aload_n hx hb d_N_tick_136 rfl (lv_at hl 1 rfl) ?_
                  refine va_get (D := D) (C := R_N) (T := F_N) (N := 25) hx hb htw uw_N hown hK hP 0 rfl rfl 18 (by decide) (htw _ k_N_49) (fun _ h9 => h9) rfl d_N_tick_137 ?_
                  refine lv_iload hx hb d_N_tick_140 (lv_at hl 5 rfl) ?_
                  refine ar_ld hx hb hK hP 15 2 rfl rfl hk20 (by decide) d_N_tick_142 ?_
                  refine sk_as (y := ((F2 13 k) + 1)) (by simp [up_at]) ?_
                  refine lv_iconst (v := 0) hx hb d_N_tick_143 (by decide) ?_
                  have hF9 := wk_F hD hS hA
                  refine cm_V (n := 6) [.int 4, .int (nI k), .int (F2 0 k), .int (F2 1 k), .int ((F2 13 k) + 1), .int 0] hC (t_N_send l D cM cG cI cJ r rr ra 0 Sr off nm g2 now (up_F (up_F F2 13 k ((F2 13 k) + 1)) 10 k 4) R2 _ 4 (nI k) (F2 0 k) (F2 1 k) ((F2 13 k) + 1) 0 (show g2 < 400 by omega)) ⟨kc_N_send, kn_N, k_N_96, ki_N_send, kv_N_send⟩ (by decide +kernel) ⟨rfl, rfl, Nat.le_of_ble_eq_true rfl, Nat.le_of_ble_eq_true rfl⟩ x_0 (yt_Y D cM cG cI cJ) hY trivial (va_recv hK hP (ci := 3) (q0 := 0) rfl rfl) hP (wk_T hD) hS hF9 rfl hl.1 rfl (Nat.le_of_ble_eq_true rfl) d_N_tick_144 ⟨Nat.le_of_ble_eq_true rfl, Nat.le_of_ble_eq_true rfl⟩ (fun _ H locs _ hP1 hD1 hz9 hk9 hS => ?_)
                  have hP : va_P D cl_L (ws_N cI r rr ra 0 Sr (off, nm, g2 + 1, now, up_F (up_F F2 13 k ((F2 13 k) + 1)) 10 k 4, sn_R R2 g2 4 (nI k) (F2 0 k) (F2 1 k) ((F2 13 k) + 1) 0)) H := hP1
                  have hD : va_D A (ws_N cI r rr ra 0 Sr (off, nm, g2 + 1, now, up_F (up_F F2 13 k ((F2 13 k) + 1)) 10 k 4, sn_R R2 g2 4 (nI k) (F2 0 k) (F2 1 k) ((F2 13 k) + 1) 0)) := wk_D hD1 hF9
                  refine lv_iinc (v := c2 + 1) (lv' := [(2, .int (c2 + 1)), (5, .int ((nI (u + 1)) - (F2 2 k))), (0, .ref r), (1, .int x), (3, .int (nI (u + 1))), (4, .int (nI k))]) hx hb d_N_tick_147 hl (k := 3) rfl rfl (by decide) rfl (fun ls hl => ?_)
                  refine lv_aload_n hx hb d_N_tick_150 rfl (lv_at hl 2 rfl) ?_
                  refine va_get (D := D) (C := R_N) (T := F_N) (N := 25) hx hb htw uw_N hown hK hP 0 rfl rfl 15 (by decide) (htw _ k_N_40) (fun _ h9 => h9) rfl d_N_tick_151 ?_
                  refine lv_iload hx hb d_N_tick_154 (lv_at hl 5 rfl) ?_
                  refine ar_ld hx hb hK hP 12 2 rfl rfl hk20 (by decide) d_N_tick_156 ?_
                  refine sk_as (y := 4) (by simp [up_at]) ?_
                  refine lv_iconst (v := 5) hx hb d_N_tick_157 (by decide) ?_
                  refine lv_icmp_ge (tgt := 244) hx hb d_N_tick_158 (by decide) (fun c13 => absurd c13 (show ¬ (5 : Int32) ≤ 4 by decide)) (fun _ => ?_)
                  refine lv_iload hx hb d_N_tick_161 (lv_at hl 1 rfl) ?_
                  refine lv_bipush (v := 40) hx hb d_N_tick_163 (by decide) ?_
                  refine lv_icmp_ne (tgt := 244) hx hb d_N_tick_165 (by decide) (fun _ => ?_) (fun c14 => absurd c14 (show ¬ nI (u + 1) - F2 2 k = 40 by rw [c12]; decide))
                  refine lv_iinc (v := nI (k + 1)) (lv' := [(4, .int (nI (k + 1))), (2, .int (c2 + 1)), (5, .int ((nI (u + 1)) - (F2 2 k))), (0, .ref r), (1, .int x), (3, .int (nI (u + 1)))]) hx hb d_N_tick_244 hl (k := 5) rfl (nI_1 k) (by decide) rfl (fun ls hl => ?_)
                  refine lv_goto (tgt := 49) hx hb d_N_tick_247 (by decide) ?_
                  have e_D : dy_m (nI (u + 1)) k (g2, c2, F2, R2) = (g2 + 1, (c2 + 1), up_F (up_F F2 13 k ((F2 13 k) + 1)) 10 k 4, sn_R R2 g2 4 (nI k) (F2 0 k) (F2 1 k) ((F2 13 k) + 1) 0) := dm_eq (fun z => absurd ((sb_e.mpr z).symm.trans c12) (by decide)) (Or.inr (Or.inl (sb_e.mp (show nI (u + 1) - F2 2 k = 15 from c12)))) b8
                  exact ih8 H locs hS ls (k + 1) (g2 + 1) ((c2 + 1)) (up_F (up_F F2 13 k ((F2 13 k) + 1)) 10 k 4) (sn_R R2 g2 4 (nI k) (F2 0 k) (F2 1 k) ((F2 13 k) + 1) 0) (by omega) (by show dy_m (nI (u + 1)) k (dy_d (nI (u + 1)) k (g, ct, F1, R1)) = _; rw [hdd]; exact e_D) hP hD (lv_sub hl [3, 4, 1, 5, 0] rfl) (by omega)
                · refine lv_iload hx hb d_N_tick_92 (lv_at hl 0 rfl) ?_
                  refine lv_bipush (v := 20) hx hb d_N_tick_94 (by decide) ?_
                  refine lv_icmp_ne (tgt := 150) hx hb d_N_tick_96 (by decide) (fun c15 => ?_) (fun c15 => ?_)
                  · refine lv_aload_n hx hb d_N_tick_150 rfl (lv_at hl 1 rfl) ?_
                    refine va_get (D := D) (C := R_N) (T := F_N) (N := 25) hx hb htw uw_N hown hK hP 0 rfl rfl 15 (by decide) (htw _ k_N_40) (fun _ h9 => h9) rfl d_N_tick_151 ?_
                    refine lv_iload hx hb d_N_tick_154 (lv_at hl 5 rfl) ?_
                    refine ar_ld hx hb hK hP 12 2 rfl rfl hk20 (by decide) d_N_tick_156 ?_
                    refine lv_iconst (v := 5) hx hb d_N_tick_157 (by decide) ?_
                    refine lv_icmp_ge (tgt := 244) hx hb d_N_tick_158 (by decide) (fun c16 => ?_) (fun c16 => ?_)
                    · refine lv_iinc (v := nI (k + 1)) (lv' := [(4, .int (nI (k + 1))), (5, .int ((nI (u + 1)) - (F2 2 k))), (0, .ref r), (1, .int x), (2, .int c2), (3, .int (nI (u + 1)))]) hx hb d_N_tick_244 hl (k := 5) rfl (nI_1 k) (by decide) rfl (fun ls hl => ?_)
                      refine lv_goto (tgt := 49) hx hb d_N_tick_247 (by decide) ?_
                      have e_D : dy_m (nI (u + 1)) k (g2, c2, F2, R2) = (g2, c2, F2, R2) := dm_en ((n_e5 hMk.2.2.2.2.2.2.2.2.2.1).mp c16) (fun z => z.1.elim (fun z => c9 (sb_e.mpr z)) (fun z => z.elim (fun z => c12 (sb_e.mpr z)) (fun z => c15 (sb_e.mpr z))))
                      exact ih8 H locs hS ls (k + 1) (g2) (c2) (F2) (R2) (by omega) (by show dy_m (nI (u + 1)) k (dy_d (nI (u + 1)) k (g, ct, F1, R1)) = _; rw [hdd]; exact e_D) hP hD (lv_sub hl [2, 3, 4, 5, 0] rfl) (by omega)
                    · refine lv_iload hx hb d_N_tick_161 (lv_at hl 0 rfl) ?_
                      refine lv_bipush (v := 40) hx hb d_N_tick_163 (by decide) ?_
                      refine lv_icmp_ne (tgt := 244) hx hb d_N_tick_165 (by decide) (fun c17 => ?_) (fun c17 => ?_)
                      · refine lv_iinc (v := nI (k + 1)) (lv' := [(4, .int (nI (k + 1))), (5, .int ((nI (u + 1)) - (F2 2 k))), (0, .ref r), (1, .int x), (2, .int c2), (3, .int (nI (u + 1)))]) hx hb d_N_tick_244 hl (k := 5) rfl (nI_1 k) (by decide) rfl (fun ls hl => ?_)
                        refine lv_goto (tgt := 49) hx hb d_N_tick_247 (by decide) ?_
                        have e_D : dy_m (nI (u + 1)) k (g2, c2, F2, R2) = (g2, c2, F2, R2) := dm_no (fun z => c17 (sb_e.mpr z)) (fun z => z.1.elim (fun z => c9 (sb_e.mpr z)) (fun z => z.elim (fun z => c12 (sb_e.mpr z)) (fun z => c15 (sb_e.mpr z))))
                        exact ih8 H locs hS ls (k + 1) (g2) (c2) (F2) (R2) (by omega) (by show dy_m (nI (u + 1)) k (dy_d (nI (u + 1)) k (g, ct, F1, R1)) = _; rw [hdd]; exact e_D) hP hD (lv_sub hl [2, 3, 4, 5, 0] rfl) (by omega)
                      · refine lv_aload_n hx hb d_N_tick_168 rfl (lv_at hl 1 rfl) ?_
                        refine va_get (D := D) (C := R_N) (T := F_N) (N := 25) hx hb htw uw_N hown hK hP 0 rfl rfl 15 (by decide) (htw _ k_N_40) (fun _ h9 => h9) rfl d_N_tick_169 ?_
                        refine lv_iload hx hb d_N_tick_172 (lv_at hl 5 rfl) ?_
                        refine lv_iconst (v := 5) hx hb d_N_tick_174 (by decide) ?_
                        refine ar_st hx hb hK hP hD hS 12 2 rfl rfl hk20 (by decide) d_N_tick_175 (fun H locs hP hD hS => ?_)
                        have hP : va_P D cl_L (ws_N cI r rr ra 0 Sr (off, nm, g2, now, up_F F2 10 k 5, R2)) H := hP
                        have hD : va_D A (ws_N cI r rr ra 0 Sr (off, nm, g2, now, up_F F2 10 k 5, R2)) := hD
                        refine lv_aload_n hx hb d_N_tick_176 rfl (lv_at hl 1 rfl) ?_
                        refine va_get (D := D) (C := R_N) (T := F_N) (N := 25) hx hb htw uw_N hown hK hP 0 rfl rfl 10 (by decide) (htw _ k_N_25) (fun _ h9 => h9) rfl d_N_tick_177 ?_
                        refine lv_iload hx hb d_N_tick_180 (lv_at hl 5 rfl) ?_
                        refine ar_ld hx hb hK hP 7 2 rfl rfl hk20 (by decide) d_N_tick_182 ?_
                        refine lv_i2l (v := (F2 5 k).toInt64) hx hb d_N_tick_183 rfl ?_
                        refine lv_aload_n hx hb d_N_tick_184 rfl (lv_at hl 1 rfl) ?_
                        refine va_get (D := D) (C := R_N) (T := F_N) (N := 25) hx hb htw uw_N hown hK hP 0 rfl rfl 9 (by decide) (htw _ k_N_22) (fun _ h9 => h9) rfl d_N_tick_185 ?_
                        refine lv_iload hx hb d_N_tick_188 (lv_at hl 5 rfl) ?_
                        refine ar_ld hx hb hK hP 6 2 rfl rfl hk20 (by decide) d_N_tick_190 ?_
                        refine lv_aload_n hx hb d_N_tick_191 rfl (lv_at hl 1 rfl) ?_
                        refine va_get (D := D) (C := R_N) (T := F_N) (N := 25) hx hb htw uw_N hown hK hP 0 rfl rfl 16 (by decide) (htw _ k_N_43) (fun _ h9 => h9) rfl d_N_tick_192 ?_
                        refine lv_iload hx hb d_N_tick_195 (lv_at hl 5 rfl) ?_
                        refine ar_ld hx hb hK hP 13 2 rfl rfl hk20 (by decide) d_N_tick_197 ?_
                        refine lv_isub hx hb d_N_tick_198 ?_
                        refine lv_i2l (v := ((F2 4 k) - (F2 11 k)).toInt64) hx hb d_N_tick_199 rfl ?_
                        refine lv_lmul hx hb d_N_tick_200 ?_
                        refine lv_lstore (lv' := [(6, .long (((F2 5 k).toInt64) * (((F2 4 k) - (F2 11 k)).toInt64))), (5, .int ((nI (u + 1)) - (F2 2 k))), (0, .ref r), (1, .int x), (2, .int c2), (3, .int (nI (u + 1))), (4, .int (nI k))]) hx hb d_N_tick_201 hl (by decide) rfl (fun ls hl => ?_)
                        refine lv_aload_n hx hb d_N_tick_203 rfl (lv_at hl 2 rfl) ?_
                        refine va_get (D := D) (C := R_N) (T := F_N) (N := 25) hx hb htw uw_N hown hK hP 0 rfl rfl 17 (by decide) (htw _ k_N_46) (fun _ h9 => h9) rfl d_N_tick_204 ?_
                        refine lv_iload hx hb d_N_tick_207 (lv_at hl 6 rfl) ?_
                        refine lv_lload hx hb d_N_tick_209 (lv_at hl 0 rfl) ?_
                        refine lv_aload_n hx hb d_N_tick_211 rfl (lv_at hl 2 rfl) ?_
                        refine va_get (D := D) (C := R_N) (T := F_N) (N := 25) hx hb htw uw_N hown hK hP 0 rfl rfl 9 (by decide) (htw _ k_N_22) (fun _ h9 => h9) rfl d_N_tick_212 ?_
                        refine lv_iload hx hb d_N_tick_215 (lv_at hl 6 rfl) ?_
                        refine ar_ld hx hb hK hP 6 2 rfl rfl hk20 (by decide) d_N_tick_217 ?_
                        refine lv_i2l (v := (F2 4 k).toInt64) hx hb d_N_tick_218 rfl ?_
                        refine lv_ldiv hx hb d_N_tick_219 (rv_0 hMk.2.2.2.1.1) ?_
                        refine lv_lload hx hb d_N_tick_220 (lv_at hl 0 rfl) ?_
                        refine lv_aload_n hx hb d_N_tick_222 rfl (lv_at hl 2 rfl) ?_
                        refine va_get (D := D) (C := R_N) (T := F_N) (N := 25) hx hb htw uw_N hown hK hP 0 rfl rfl 9 (by decide) (htw _ k_N_22) (fun _ h9 => h9) rfl d_N_tick_223 ?_
                        refine lv_iload hx hb d_N_tick_226 (lv_at hl 6 rfl) ?_
                        refine ar_ld hx hb hK hP 6 2 rfl rfl hk20 (by decide) d_N_tick_228 ?_
                        refine lv_i2l (v := (F2 4 k).toInt64) hx hb d_N_tick_229 rfl ?_
                        refine lv_lrem hx hb d_N_tick_230 (rv_0 hMk.2.2.2.1.1) ?_
                        refine lv_lconst (v := 0) hx hb d_N_tick_231 (by decide) ?_
                        refine W.lcmp hx hb d_N_tick_232 ?_
                        refine lv_if_le (tgt := 240) hx hb d_N_tick_233 (by decide) (fun c18 => ?_) (fun c18 => ?_)
                        · refine lv_lconst (v := 0) hx hb d_N_tick_240 (by decide) ?_
                          refine lv_ladd hx hb d_N_tick_241 ?_
                          refine lv_l2i (v := (((((F2 5 k).toInt64) * (((F2 4 k) - (F2 11 k)).toInt64)) / ((F2 4 k).toInt64)) + 0).toInt32) hx hb d_N_tick_242 rfl ?_
                          refine ar_st hx hb hK hP hD hS 14 2 rfl rfl hk20 (by decide) d_N_tick_243 (fun H locs hP hD hS => ?_)
                          have hP : va_P D cl_L (ws_N cI r rr ra 0 Sr (off, nm, g2, now, up_F (up_F F2 10 k 5) 12 k ((((((F2 5 k).toInt64) * (((F2 4 k) - (F2 11 k)).toInt64)) / ((F2 4 k).toInt64)) + 0).toInt32), R2)) H := hP
                          have hD : va_D A (ws_N cI r rr ra 0 Sr (off, nm, g2, now, up_F (up_F F2 10 k 5) 12 k ((((((F2 5 k).toInt64) * (((F2 4 k) - (F2 11 k)).toInt64)) / ((F2 4 k).toInt64)) + 0).toInt32), R2)) := hD
                          refine lv_iinc (v := nI (k + 1)) (lv' := [(4, .int (nI (k + 1))), (6, .long (((F2 5 k).toInt64) * (((F2 4 k) - (F2 11 k)).toInt64))), (5, .int ((nI (u + 1)) - (F2 2 k))), (0, .ref r), (1, .int x), (2, .int c2), (3, .int (nI (u + 1)))]) hx hb d_N_tick_244 hl (k := 6) rfl (nI_1 k) (by decide) rfl (fun ls hl => ?_)
                          refine lv_goto (tgt := 49) hx hb d_N_tick_247 (by decide) ?_
                          have e_D : dy_m (nI (u + 1)) k (g2, c2, F2, R2) = (g2, c2, up_F (up_F F2 10 k 5) 12 k ((((((F2 5 k).toInt64) * (((F2 4 k) - (F2 11 k)).toInt64)) / ((F2 4 k).toInt64)) + 0).toInt32), R2) := by rw [dm_rc (sb_e.mp (show nI (u + 1) - F2 2 k = 40 from c17))]; unfold rc_F; rw [if_neg (fun q => c16 ((n_e5 hMk.2.2.2.2.2.2.2.2.2.1).mpr q))]; simp only [rv_I]; rw [← rv_le hMk.2.2.2.2.1 hMk.2.2.2.1 hMk.2.2.2.2.2.2.2.2.2.2.1 c18, up_co (show (10 : Nat) ≠ 12 by decide)]
                          exact ih8 H locs hS ls (k + 1) (g2) (c2) (up_F (up_F F2 10 k 5) 12 k ((((((F2 5 k).toInt64) * (((F2 4 k) - (F2 11 k)).toInt64)) / ((F2 4 k).toInt64)) + 0).toInt32)) (R2) (by omega) (by show dy_m (nI (u + 1)) k (dy_d (nI (u + 1)) k (g, ct, F1, R1)) = _; rw [hdd]; exact e_D) hP hD (lv_sub hl [3, 4, 5, 6, 0] rfl) (by omega)
                        · refine lv_lconst (v := 1) hx hb d_N_tick_236 (by decide) ?_
                          refine lv_goto (tgt := 241) hx hb d_N_tick_237 (by decide) ?_
                          refine lv_ladd hx hb d_N_tick_241 ?_
                          refine lv_l2i (v := (((((F2 5 k).toInt64) * (((F2 4 k) - (F2 11 k)).toInt64)) / ((F2 4 k).toInt64)) + 1).toInt32) hx hb d_N_tick_242 rfl ?_
                          refine ar_st hx hb hK hP hD hS 14 2 rfl rfl hk20 (by decide) d_N_tick_243 (fun H locs hP hD hS => ?_)
                          have hP : va_P D cl_L (ws_N cI r rr ra 0 Sr (off, nm, g2, now, up_F (up_F F2 10 k 5) 12 k ((((((F2 5 k).toInt64) * (((F2 4 k) - (F2 11 k)).toInt64)) / ((F2 4 k).toInt64)) + 1).toInt32), R2)) H := hP
                          have hD : va_D A (ws_N cI r rr ra 0 Sr (off, nm, g2, now, up_F (up_F F2 10 k 5) 12 k ((((((F2 5 k).toInt64) * (((F2 4 k) - (F2 11 k)).toInt64)) / ((F2 4 k).toInt64)) + 1).toInt32), R2)) := hD
                          refine lv_iinc (v := nI (k + 1)) (lv' := [(4, .int (nI (k + 1))), (6, .long (((F2 5 k).toInt64) * (((F2 4 k) - (F2 11 k)).toInt64))), (5, .int ((nI (u + 1)) - (F2 2 k))), (0, .ref r), (1, .int x), (2, .int c2), (3, .int (nI (u + 1)))]) hx hb d_N_tick_244 hl (k := 6) rfl (nI_1 k) (by decide) rfl (fun ls hl => ?_)
                          refine lv_goto (tgt := 49) hx hb d_N_tick_247 (by decide) ?_
                          have e_D : dy_m (nI (u + 1)) k (g2, c2, F2, R2) = (g2, c2, up_F (up_F F2 10 k 5) 12 k ((((((F2 5 k).toInt64) * (((F2 4 k) - (F2 11 k)).toInt64)) / ((F2 4 k).toInt64)) + 1).toInt32), R2) := by rw [dm_rc (sb_e.mp (show nI (u + 1) - F2 2 k = 40 from c17))]; unfold rc_F; rw [if_neg (fun q => c16 ((n_e5 hMk.2.2.2.2.2.2.2.2.2.1).mpr q))]; simp only [rv_I]; rw [← rv_gt hMk.2.2.2.2.1 hMk.2.2.2.1 hMk.2.2.2.2.2.2.2.2.2.2.1 c18, up_co (show (10 : Nat) ≠ 12 by decide)]
                          exact ih8 H locs hS ls (k + 1) (g2) (c2) (up_F (up_F F2 10 k 5) 12 k ((((((F2 5 k).toInt64) * (((F2 4 k) - (F2 11 k)).toInt64)) / ((F2 4 k).toInt64)) + 1).toInt32)) (R2) (by omega) (by show dy_m (nI (u + 1)) k (dy_d (nI (u + 1)) k (g, ct, F1, R1)) = _; rw [hdd]; exact e_D) hP hD (lv_sub hl [3, 4, 5, 6, 0] rfl) (by omega)
                  · refine lv_aload_n hx hb d_N_tick_99 rfl (lv_at hl 1 rfl) ?_
                    refine va_get (D := D) (C := R_N) (T := F_N) (N := 25) hx hb htw uw_N hown hK hP 0 rfl rfl 18 (by decide) (htw _ k_N_49) (fun _ h9 => h9) rfl d_N_tick_100 ?_
                    refine lv_iload hx hb d_N_tick_103 (lv_at hl 5 rfl) ?_
                    refine lv_dup2_11 hx hb d_N_tick_105 rfl rfl ?_
                    refine ar_ld hx hb hK hP 15 2 rfl rfl hk20 (by decide) d_N_tick_106 ?_
                    refine lv_iconst (v := 1) hx hb d_N_tick_107 (by decide) ?_
                    refine lv_iadd hx hb d_N_tick_108 ?_
                    refine ar_st hx hb hK hP hD hS 15 2 rfl rfl hk20 (by decide) d_N_tick_109 (fun H locs hP hD hS => ?_)
                    have hP : va_P D cl_L (ws_N cI r rr ra 0 Sr (off, nm, g2, now, up_F F2 13 k ((F2 13 k) + 1), R2)) H := hP
                    have hD : va_D A (ws_N cI r rr ra 0 Sr (off, nm, g2, now, up_F F2 13 k ((F2 13 k) + 1), R2)) := hD
                    refine lv_aload_n hx hb d_N_tick_110 rfl (lv_at hl 1 rfl) ?_
                    refine va_get (D := D) (C := R_N) (T := F_N) (N := 25) hx hb htw uw_N hown hK hP 0 rfl rfl 15 (by decide) (htw _ k_N_40) (fun _ h9 => h9) rfl d_N_tick_111 ?_
                    refine lv_iload hx hb d_N_tick_114 (lv_at hl 5 rfl) ?_
                    refine lv_iconst (v := 4) hx hb d_N_tick_116 (by decide) ?_
                    refine ar_st hx hb hK hP hD hS 12 2 rfl rfl hk20 (by decide) d_N_tick_117 (fun H locs hP hD hS => ?_)
                    have hP : va_P D cl_L (ws_N cI r rr ra 0 Sr (off, nm, g2, now, up_F (up_F F2 13 k ((F2 13 k) + 1)) 10 k 4, R2)) H := hP
                    have hD : va_D A (ws_N cI r rr ra 0 Sr (off, nm, g2, now, up_F (up_F F2 13 k ((F2 13 k) + 1)) 10 k 4, R2)) := hD
                    refine lv_aload_n hx hb d_N_tick_118 rfl (lv_at hl 1 rfl) ?_
                    refine lv_iconst (v := 4) hx hb d_N_tick_119 (by decide) ?_
                    refine lv_iload hx hb d_N_tick_120 (lv_at hl 5 rfl) ?_
                    refine lv_aload_n hx hb d_N_tick_122 rfl (lv_at hl 1 rfl) ?_
                    refine va_get (D := D) (C := R_N) (T := F_N) (N := 25) hx hb htw uw_N hown hK hP 0 rfl rfl 5 (by decide) (htw _ k_N_7) (fun _ h9 => h9) rfl d_N_tick_123 ?_
                    refine lv_iload hx hb d_N_tick_126 (lv_at hl 5 rfl) ?_
                    refine ar_ld hx hb hK hP 2 2 rfl rfl hk20 (by decide) d_N_tick_128 ?_
                    refine lv_aload_n hx hb d_N_tick_129 rfl (lv_at hl 1 rfl) ?_
                    refine va_get (D := D) (C := R_N) (T := F_N) (N := 25) hx hb htw uw_N hown hK hP 0 rfl rfl 6 (by decide) (htw _ k_N_13) (fun _ h9 => h9) rfl d_N_tick_130 ?_
                    refine lv_iload hx hb d_N_tick_133 (lv_at hl 5 rfl) ?_
                    refine ar_ld hx hb hK hP 3 2 rfl rfl hk20 (by decide) d_N_tick_135 ?_
                    refine lv_aload_n hx hb d_N_tick_136 rfl (lv_at hl 1 rfl) ?_
                    refine va_get (D := D) (C := R_N) (T := F_N) (N := 25) hx hb htw uw_N hown hK hP 0 rfl rfl 18 (by decide) (htw _ k_N_49) (fun _ h9 => h9) rfl d_N_tick_137 ?_
                    refine lv_iload hx hb d_N_tick_140 (lv_at hl 5 rfl) ?_
                    refine ar_ld hx hb hK hP 15 2 rfl rfl hk20 (by decide) d_N_tick_142 ?_
                    refine sk_as (y := ((F2 13 k) + 1)) (by simp [up_at]) ?_
                    refine lv_iconst (v := 0) hx hb d_N_tick_143 (by decide) ?_
                    have hF9 := wk_F hD hS hA
                    refine cm_V (n := 6) [.int 4, .int (nI k), .int (F2 0 k), .int (F2 1 k), .int ((F2 13 k) + 1), .int 0] hC (t_N_send l D cM cG cI cJ r rr ra 0 Sr off nm g2 now (up_F (up_F F2 13 k ((F2 13 k) + 1)) 10 k 4) R2 _ 4 (nI k) (F2 0 k) (F2 1 k) ((F2 13 k) + 1) 0 (show g2 < 400 by omega)) ⟨kc_N_send, kn_N, k_N_96, ki_N_send, kv_N_send⟩ (by decide +kernel) ⟨rfl, rfl, Nat.le_of_ble_eq_true rfl, Nat.le_of_ble_eq_true rfl⟩ x_0 (yt_Y D cM cG cI cJ) hY trivial (va_recv hK hP (ci := 3) (q0 := 0) rfl rfl) hP (wk_T hD) hS hF9 rfl hl.1 rfl (Nat.le_of_ble_eq_true rfl) d_N_tick_144 ⟨Nat.le_of_ble_eq_true rfl, Nat.le_of_ble_eq_true rfl⟩ (fun _ H locs _ hP1 hD1 hz9 hk9 hS => ?_)
                    have hP : va_P D cl_L (ws_N cI r rr ra 0 Sr (off, nm, g2 + 1, now, up_F (up_F F2 13 k ((F2 13 k) + 1)) 10 k 4, sn_R R2 g2 4 (nI k) (F2 0 k) (F2 1 k) ((F2 13 k) + 1) 0)) H := hP1
                    have hD : va_D A (ws_N cI r rr ra 0 Sr (off, nm, g2 + 1, now, up_F (up_F F2 13 k ((F2 13 k) + 1)) 10 k 4, sn_R R2 g2 4 (nI k) (F2 0 k) (F2 1 k) ((F2 13 k) + 1) 0)) := wk_D hD1 hF9
                    refine lv_iinc (v := c2 + 1) (lv' := [(2, .int (c2 + 1)), (5, .int ((nI (u + 1)) - (F2 2 k))), (0, .ref r), (1, .int x), (3, .int (nI (u + 1))), (4, .int (nI k))]) hx hb d_N_tick_147 hl (k := 3) rfl rfl (by decide) rfl (fun ls hl => ?_)
                    refine lv_aload_n hx hb d_N_tick_150 rfl (lv_at hl 2 rfl) ?_
                    refine va_get (D := D) (C := R_N) (T := F_N) (N := 25) hx hb htw uw_N hown hK hP 0 rfl rfl 15 (by decide) (htw _ k_N_40) (fun _ h9 => h9) rfl d_N_tick_151 ?_
                    refine lv_iload hx hb d_N_tick_154 (lv_at hl 5 rfl) ?_
                    refine ar_ld hx hb hK hP 12 2 rfl rfl hk20 (by decide) d_N_tick_156 ?_
                    refine sk_as (y := 4) (by simp [up_at]) ?_
                    refine lv_iconst (v := 5) hx hb d_N_tick_157 (by decide) ?_
                    refine lv_icmp_ge (tgt := 244) hx hb d_N_tick_158 (by decide) (fun c19 => absurd c19 (show ¬ (5 : Int32) ≤ 4 by decide)) (fun _ => ?_)
                    refine lv_iload hx hb d_N_tick_161 (lv_at hl 1 rfl) ?_
                    refine lv_bipush (v := 40) hx hb d_N_tick_163 (by decide) ?_
                    refine lv_icmp_ne (tgt := 244) hx hb d_N_tick_165 (by decide) (fun _ => ?_) (fun c20 => absurd c20 (show ¬ nI (u + 1) - F2 2 k = 40 by rw [c15]; decide))
                    refine lv_iinc (v := nI (k + 1)) (lv' := [(4, .int (nI (k + 1))), (2, .int (c2 + 1)), (5, .int ((nI (u + 1)) - (F2 2 k))), (0, .ref r), (1, .int x), (3, .int (nI (u + 1)))]) hx hb d_N_tick_244 hl (k := 5) rfl (nI_1 k) (by decide) rfl (fun ls hl => ?_)
                    refine lv_goto (tgt := 49) hx hb d_N_tick_247 (by decide) ?_
                    have e_D : dy_m (nI (u + 1)) k (g2, c2, F2, R2) = (g2 + 1, (c2 + 1), up_F (up_F F2 13 k ((F2 13 k) + 1)) 10 k 4, sn_R R2 g2 4 (nI k) (F2 0 k) (F2 1 k) ((F2 13 k) + 1) 0) := dm_eq (fun z => absurd ((sb_e.mpr z).symm.trans c15) (by decide)) (Or.inr (Or.inr (sb_e.mp (show nI (u + 1) - F2 2 k = 20 from c15)))) b8
                    exact ih8 H locs hS ls (k + 1) (g2 + 1) ((c2 + 1)) (up_F (up_F F2 13 k ((F2 13 k) + 1)) 10 k 4) (sn_R R2 g2 4 (nI k) (F2 0 k) (F2 1 k) ((F2 13 k) + 1) 0) (by omega) (by show dy_m (nI (u + 1)) k (dy_d (nI (u + 1)) k (g, ct, F1, R1)) = _; rw [hdd]; exact e_D) hP hD (lv_sub hl [3, 4, 1, 5, 0] rfl) (by omega)
            · have b8 : ¬ is_aw (F2 10 k) := b8
              refine lv_if_eq (tgt := 150) hx hb d_N_tick_75 (by decide) (fun _ => ?_) (fun q9 => absurd rfl q9)
              refine lv_aload_n hx hb d_N_tick_150 rfl (lv_at hl 1 rfl) ?_
              refine va_get (D := D) (C := R_N) (T := F_N) (N := 25) hx hb htw uw_N hown hK hP 0 rfl rfl 15 (by decide) (htw _ k_N_40) (fun _ h9 => h9) rfl d_N_tick_151 ?_
              refine lv_iload hx hb d_N_tick_154 (lv_at hl 5 rfl) ?_
              refine ar_ld hx hb hK hP 12 2 rfl rfl hk20 (by decide) d_N_tick_156 ?_
              refine lv_iconst (v := 5) hx hb d_N_tick_157 (by decide) ?_
              refine lv_icmp_ge (tgt := 244) hx hb d_N_tick_158 (by decide) (fun c21 => ?_) (fun c21 => ?_)
              · refine lv_iinc (v := nI (k + 1)) (lv' := [(4, .int (nI (k + 1))), (5, .int ((nI (u + 1)) - (F2 2 k))), (0, .ref r), (1, .int x), (2, .int c2), (3, .int (nI (u + 1)))]) hx hb d_N_tick_244 hl (k := 5) rfl (nI_1 k) (by decide) rfl (fun ls hl => ?_)
                refine lv_goto (tgt := 49) hx hb d_N_tick_247 (by decide) ?_
                have e_D : dy_m (nI (u + 1)) k (g2, c2, F2, R2) = (g2, c2, F2, R2) := dm_en ((n_e5 hMk.2.2.2.2.2.2.2.2.2.1).mp c21) (fun z => b8 z.2)
                exact ih8 H locs hS ls (k + 1) (g2) (c2) (F2) (R2) (by omega) (by show dy_m (nI (u + 1)) k (dy_d (nI (u + 1)) k (g, ct, F1, R1)) = _; rw [hdd]; exact e_D) hP hD (lv_sub hl [2, 3, 4, 5, 0] rfl) (by omega)
              · refine lv_iload hx hb d_N_tick_161 (lv_at hl 0 rfl) ?_
                refine lv_bipush (v := 40) hx hb d_N_tick_163 (by decide) ?_
                refine lv_icmp_ne (tgt := 244) hx hb d_N_tick_165 (by decide) (fun c22 => ?_) (fun c22 => ?_)
                · refine lv_iinc (v := nI (k + 1)) (lv' := [(4, .int (nI (k + 1))), (5, .int ((nI (u + 1)) - (F2 2 k))), (0, .ref r), (1, .int x), (2, .int c2), (3, .int (nI (u + 1)))]) hx hb d_N_tick_244 hl (k := 5) rfl (nI_1 k) (by decide) rfl (fun ls hl => ?_)
                  refine lv_goto (tgt := 49) hx hb d_N_tick_247 (by decide) ?_
                  have e_D : dy_m (nI (u + 1)) k (g2, c2, F2, R2) = (g2, c2, F2, R2) := dm_no (fun z => c22 (sb_e.mpr z)) (fun z => b8 z.2)
                  exact ih8 H locs hS ls (k + 1) (g2) (c2) (F2) (R2) (by omega) (by show dy_m (nI (u + 1)) k (dy_d (nI (u + 1)) k (g, ct, F1, R1)) = _; rw [hdd]; exact e_D) hP hD (lv_sub hl [2, 3, 4, 5, 0] rfl) (by omega)
                · refine lv_aload_n hx hb d_N_tick_168 rfl (lv_at hl 1 rfl) ?_
                  refine va_get (D := D) (C := R_N) (T := F_N) (N := 25) hx hb htw uw_N hown hK hP 0 rfl rfl 15 (by decide) (htw _ k_N_40) (fun _ h9 => h9) rfl d_N_tick_169 ?_
                  refine lv_iload hx hb d_N_tick_172 (lv_at hl 5 rfl) ?_
                  refine lv_iconst (v := 5) hx hb d_N_tick_174 (by decide) ?_
                  refine ar_st hx hb hK hP hD hS 12 2 rfl rfl hk20 (by decide) d_N_tick_175 (fun H locs hP hD hS => ?_)
                  have hP : va_P D cl_L (ws_N cI r rr ra 0 Sr (off, nm, g2, now, up_F F2 10 k 5, R2)) H := hP
                  have hD : va_D A (ws_N cI r rr ra 0 Sr (off, nm, g2, now, up_F F2 10 k 5, R2)) := hD
                  refine lv_aload_n hx hb d_N_tick_176 rfl (lv_at hl 1 rfl) ?_
                  refine va_get (D := D) (C := R_N) (T := F_N) (N := 25) hx hb htw uw_N hown hK hP 0 rfl rfl 10 (by decide) (htw _ k_N_25) (fun _ h9 => h9) rfl d_N_tick_177 ?_
                  refine lv_iload hx hb d_N_tick_180 (lv_at hl 5 rfl) ?_
                  refine ar_ld hx hb hK hP 7 2 rfl rfl hk20 (by decide) d_N_tick_182 ?_
                  refine lv_i2l (v := (F2 5 k).toInt64) hx hb d_N_tick_183 rfl ?_
                  refine lv_aload_n hx hb d_N_tick_184 rfl (lv_at hl 1 rfl) ?_
                  refine va_get (D := D) (C := R_N) (T := F_N) (N := 25) hx hb htw uw_N hown hK hP 0 rfl rfl 9 (by decide) (htw _ k_N_22) (fun _ h9 => h9) rfl d_N_tick_185 ?_
                  refine lv_iload hx hb d_N_tick_188 (lv_at hl 5 rfl) ?_
                  refine ar_ld hx hb hK hP 6 2 rfl rfl hk20 (by decide) d_N_tick_190 ?_
                  refine lv_aload_n hx hb d_N_tick_191 rfl (lv_at hl 1 rfl) ?_
                  refine va_get (D := D) (C := R_N) (T := F_N) (N := 25) hx hb htw uw_N hown hK hP 0 rfl rfl 16 (by decide) (htw _ k_N_43) (fun _ h9 => h9) rfl d_N_tick_192 ?_
                  refine lv_iload hx hb d_N_tick_195 (lv_at hl 5 rfl) ?_
                  refine ar_ld hx hb hK hP 13 2 rfl rfl hk20 (by decide) d_N_tick_197 ?_
                  refine lv_isub hx hb d_N_tick_198 ?_
                  refine lv_i2l (v := ((F2 4 k) - (F2 11 k)).toInt64) hx hb d_N_tick_199 rfl ?_
                  refine lv_lmul hx hb d_N_tick_200 ?_
                  refine lv_lstore (lv' := [(6, .long (((F2 5 k).toInt64) * (((F2 4 k) - (F2 11 k)).toInt64))), (5, .int ((nI (u + 1)) - (F2 2 k))), (0, .ref r), (1, .int x), (2, .int c2), (3, .int (nI (u + 1))), (4, .int (nI k))]) hx hb d_N_tick_201 hl (by decide) rfl (fun ls hl => ?_)
                  refine lv_aload_n hx hb d_N_tick_203 rfl (lv_at hl 2 rfl) ?_
                  refine va_get (D := D) (C := R_N) (T := F_N) (N := 25) hx hb htw uw_N hown hK hP 0 rfl rfl 17 (by decide) (htw _ k_N_46) (fun _ h9 => h9) rfl d_N_tick_204 ?_
                  refine lv_iload hx hb d_N_tick_207 (lv_at hl 6 rfl) ?_
                  refine lv_lload hx hb d_N_tick_209 (lv_at hl 0 rfl) ?_
                  refine lv_aload_n hx hb d_N_tick_211 rfl (lv_at hl 2 rfl) ?_
                  refine va_get (D := D) (C := R_N) (T := F_N) (N := 25) hx hb htw uw_N hown hK hP 0 rfl rfl 9 (by decide) (htw _ k_N_22) (fun _ h9 => h9) rfl d_N_tick_212 ?_
                  refine lv_iload hx hb d_N_tick_215 (lv_at hl 6 rfl) ?_
                  refine ar_ld hx hb hK hP 6 2 rfl rfl hk20 (by decide) d_N_tick_217 ?_
                  refine lv_i2l (v := (F2 4 k).toInt64) hx hb d_N_tick_218 rfl ?_
                  refine lv_ldiv hx hb d_N_tick_219 (rv_0 hMk.2.2.2.1.1) ?_
                  refine lv_lload hx hb d_N_tick_220 (lv_at hl 0 rfl) ?_
                  refine lv_aload_n hx hb d_N_tick_222 rfl (lv_at hl 2 rfl) ?_
                  refine va_get (D := D) (C := R_N) (T := F_N) (N := 25) hx hb htw uw_N hown hK hP 0 rfl rfl 9 (by decide) (htw _ k_N_22) (fun _ h9 => h9) rfl d_N_tick_223 ?_
                  refine lv_iload hx hb d_N_tick_226 (lv_at hl 6 rfl) ?_
                  refine ar_ld hx hb hK hP 6 2 rfl rfl hk20 (by decide) d_N_tick_228 ?_
                  refine lv_i2l (v := (F2 4 k).toInt64) hx hb d_N_tick_229 rfl ?_
                  refine lv_lrem hx hb d_N_tick_230 (rv_0 hMk.2.2.2.1.1) ?_
                  refine lv_lconst (v := 0) hx hb d_N_tick_231 (by decide) ?_
                  refine W.lcmp hx hb d_N_tick_232 ?_
                  refine lv_if_le (tgt := 240) hx hb d_N_tick_233 (by decide) (fun c23 => ?_) (fun c23 => ?_)
                  · refine lv_lconst (v := 0) hx hb d_N_tick_240 (by decide) ?_
                    refine lv_ladd hx hb d_N_tick_241 ?_
                    refine lv_l2i (v := (((((F2 5 k).toInt64) * (((F2 4 k) - (F2 11 k)).toInt64)) / ((F2 4 k).toInt64)) + 0).toInt32) hx hb d_N_tick_242 rfl ?_
                    refine ar_st hx hb hK hP hD hS 14 2 rfl rfl hk20 (by decide) d_N_tick_243 (fun H locs hP hD hS => ?_)
                    have hP : va_P D cl_L (ws_N cI r rr ra 0 Sr (off, nm, g2, now, up_F (up_F F2 10 k 5) 12 k ((((((F2 5 k).toInt64) * (((F2 4 k) - (F2 11 k)).toInt64)) / ((F2 4 k).toInt64)) + 0).toInt32), R2)) H := hP
                    have hD : va_D A (ws_N cI r rr ra 0 Sr (off, nm, g2, now, up_F (up_F F2 10 k 5) 12 k ((((((F2 5 k).toInt64) * (((F2 4 k) - (F2 11 k)).toInt64)) / ((F2 4 k).toInt64)) + 0).toInt32), R2)) := hD
                    refine lv_iinc (v := nI (k + 1)) (lv' := [(4, .int (nI (k + 1))), (6, .long (((F2 5 k).toInt64) * (((F2 4 k) - (F2 11 k)).toInt64))), (5, .int ((nI (u + 1)) - (F2 2 k))), (0, .ref r), (1, .int x), (2, .int c2), (3, .int (nI (u + 1)))]) hx hb d_N_tick_244 hl (k := 6) rfl (nI_1 k) (by decide) rfl (fun ls hl => ?_)
                    refine lv_goto (tgt := 49) hx hb d_N_tick_247 (by decide) ?_
                    have e_D : dy_m (nI (u + 1)) k (g2, c2, F2, R2) = (g2, c2, up_F (up_F F2 10 k 5) 12 k ((((((F2 5 k).toInt64) * (((F2 4 k) - (F2 11 k)).toInt64)) / ((F2 4 k).toInt64)) + 0).toInt32), R2) := by rw [dm_rc (sb_e.mp (show nI (u + 1) - F2 2 k = 40 from c22))]; unfold rc_F; rw [if_neg (fun q => c21 ((n_e5 hMk.2.2.2.2.2.2.2.2.2.1).mpr q))]; simp only [rv_I]; rw [← rv_le hMk.2.2.2.2.1 hMk.2.2.2.1 hMk.2.2.2.2.2.2.2.2.2.2.1 c23, up_co (show (10 : Nat) ≠ 12 by decide)]
                    exact ih8 H locs hS ls (k + 1) (g2) (c2) (up_F (up_F F2 10 k 5) 12 k ((((((F2 5 k).toInt64) * (((F2 4 k) - (F2 11 k)).toInt64)) / ((F2 4 k).toInt64)) + 0).toInt32)) (R2) (by omega) (by show dy_m (nI (u + 1)) k (dy_d (nI (u + 1)) k (g, ct, F1, R1)) = _; rw [hdd]; exact e_D) hP hD (lv_sub hl [3, 4, 5, 6, 0] rfl) (by omega)
                  · refine lv_lconst (v := 1) hx hb d_N_tick_236 (by decide) ?_
                    refine lv_goto (tgt := 241) hx hb d_N_tick_237 (by decide) ?_
                    refine lv_ladd hx hb d_N_tick_241 ?_
                    refine lv_l2i (v := (((((F2 5 k).toInt64) * (((F2 4 k) - (F2 11 k)).toInt64)) / ((F2 4 k).toInt64)) + 1).toInt32) hx hb d_N_tick_242 rfl ?_
                    refine ar_st hx hb hK hP hD hS 14 2 rfl rfl hk20 (by decide) d_N_tick_243 (fun H locs hP hD hS => ?_)
                    have hP : va_P D cl_L (ws_N cI r rr ra 0 Sr (off, nm, g2, now, up_F (up_F F2 10 k 5) 12 k ((((((F2 5 k).toInt64) * (((F2 4 k) - (F2 11 k)).toInt64)) / ((F2 4 k).toInt64)) + 1).toInt32), R2)) H := hP
                    have hD : va_D A (ws_N cI r rr ra 0 Sr (off, nm, g2, now, up_F (up_F F2 10 k 5) 12 k ((((((F2 5 k).toInt64) * (((F2 4 k) - (F2 11 k)).toInt64)) / ((F2 4 k).toInt64)) + 1).toInt32), R2)) := hD
                    refine lv_iinc (v := nI (k + 1)) (lv' := [(4, .int (nI (k + 1))), (6, .long (((F2 5 k).toInt64) * (((F2 4 k) - (F2 11 k)).toInt64))), (5, .int ((nI (u + 1)) - (F2 2 k))), (0, .ref r), (1, .int x), (2, .int c2), (3, .int (nI (u + 1)))]) hx hb d_N_tick_244 hl (k := 6) rfl (nI_1 k) (by decide) rfl (fun ls hl => ?_)
                    refine lv_goto (tgt := 49) hx hb d_N_tick_247 (by decide) ?_
                    have e_D : dy_m (nI (u + 1)) k (g2, c2, F2, R2) = (g2, c2, up_F (up_F F2 10 k 5) 12 k ((((((F2 5 k).toInt64) * (((F2 4 k) - (F2 11 k)).toInt64)) / ((F2 4 k).toInt64)) + 1).toInt32), R2) := by rw [dm_rc (sb_e.mp (show nI (u + 1) - F2 2 k = 40 from c22))]; unfold rc_F; rw [if_neg (fun q => c21 ((n_e5 hMk.2.2.2.2.2.2.2.2.2.1).mpr q))]; simp only [rv_I]; rw [← rv_gt hMk.2.2.2.2.1 hMk.2.2.2.1 hMk.2.2.2.2.2.2.2.2.2.2.1 c23, up_co (show (10 : Nat) ≠ 12 by decide)]
                    exact ih8 H locs hS ls (k + 1) (g2) (c2) (up_F (up_F F2 10 k 5) 12 k ((((((F2 5 k).toInt64) * (((F2 4 k) - (F2 11 k)).toInt64)) / ((F2 4 k).toInt64)) + 1).toInt32)) (R2) (by omega) (by show dy_m (nI (u + 1)) k (dy_d (nI (u + 1)) k (g, ct, F1, R1)) = _; rw [hdd]; exact e_D) hP hD (lv_sub hl [3, 4, 5, 6, 0] rfl) (by omega)
  · refine lv_if_eq (tgt := 19) hx hb d_N_tick_12 (by decide) (fun _ => ?_) (fun q9 => absurd rfl q9)
    refine lv_iconst (v := 1) hx hb d_N_tick_19 (by decide) ?_
    refine va_put (D := D) (ci := 3) (v := .int 1) (ty := .int) (C := R_N) (T := F_N) (N := 25) hx hb htw uw_N ft_N tk_N n_N hown hK hP hD hS 0 rfl rfl 0 (by decide) (htw _ k_N_74) (fun _ h9 => h9) rfl (by decide +kernel) rfl rfl (Nat.le_of_ble_eq_true rfl) d_N_tick_20 (fun H locs hP hD hS => ?_)
    have hP : va_P D cl_L (ws_N cI r rr ra 1 Sr (off, nm, ng, now, F, R)) H := hP
    have hD : va_D A (ws_N cI r rr ra 1 Sr (off, nm, ng, now, F, R)) := hD
    refine lv_aload_n hx hb d_N_tick_23 rfl (lv_at hl 0 rfl) ?_
    refine va_get (D := D) (C := R_N) (T := F_N) (N := 25) hx hb htw uw_N hown hK hP 0 rfl rfl 0 (by decide) (htw _ k_N_74) (fun _ h9 => h9) rfl d_N_tick_24 ?_
    refine lv_if_le (tgt := 32) hx hb d_N_tick_27 (by decide) (fun q9 => absurd q9 (by decide)) (fun _ => ?_)
    refine lv_iconst (v := 0) hx hb d_N_tick_30 (by decide) ?_
    subst hAe
    have e_S : sp_ti (off, nm, ng, now, F, R) x = (1, 0, (off, nm, ng, now, F, R)) := by simp only [sp_ti]; rw [if_neg b3]
    exact W.iret (v := 0) hx hb hr (fun t ht hW => ⟨⟨_, Sr, rfl, ⟨fun _ => by rw [e_S], by rw [e_S]; exact hSr⟩, by rw [ht, e_S]; exact hP, by rw [e_S]; exact hD⟩, hS.F ht⟩) hS.2.2 d_N_tick_31
