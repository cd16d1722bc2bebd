theorem nm_20 {n : Nat} (h : nI n = 20) (hn : n ≤ 20) : n = 20 := by
  rw [i_eq, i_nI (by omega)] at h
  have e : (20 : Int32).toInt = 20 := rfl
  omega
theorem sr_mv {off now off2 now2 : Int32} {nm ng ng2 : Nat} {F : Nat → Nat → Int32} {R R2 : Nat → Int32} {S : Nat → Int32} {a b d s n v : Int32} (h : sr_P S (off, nm, ng, now, F, R)) : sr_P S (off2, nm + 1, ng2, now2, nw_F F nm a b d s n v, R2) := by
  intro j hj h6
  by_cases hjn : j = nm
  · subst hjn
    exact absurd (by simp [nw_F, up_at]) h6
  · rw [nw_ni hjn] at h6 ⊢
    exact h j (by omega) h6
theorem d_0 {a b : Int32} : a - b = 0 ↔ b = a := by
  constructor
  · intro h
    have e := Int32.sub_add_cancel a b
    rw [h, Int32.zero_add] at e
    exact e
  · intro h
    rw [h, Int32.sub_self]
theorem wi_8 {x : Int32} (h : is_wi x 0 8) (h0 : ¬ x = 0) (h1 : ¬ x = 1) (h2 : ¬ x = 2) (h3 : ¬ x = 3) (h4 : ¬ x = 4) (h5 : ¬ x = 5) (h6 : ¬ x = 6) (h7 : ¬ x = 7) : x = 8 := by
  obtain ⟨a, b⟩ := h
  rw [i_lt] at a b
  have q0 := ne_I (n := 0) h0
  have q1 := ne_I (n := 1) h1
  have q2 := ne_I (n := 2) h2
  have q3 := ne_I (n := 3) h3
  have q4 := ne_I (n := 4) h4
  have q5 := ne_I (n := 5) h5
  have q6 := ne_I (n := 6) h6
  have q7 := ne_I (n := 7) h7
  have e0 : (0 : Int32).toInt = 0 := rfl
  have e8 : (8 : Int32).toInt = 8 := rfl
  exact i_eq.mpr (by rw [e8]; omega)
theorem wi_k {x : Int32} (h : is_wi x 0 6) : ∃ k : Nat, k ≤ 6 ∧ x = nI k := by
  obtain ⟨a, b⟩ := h
  rw [i_lt] at a b
  have e0 : (0 : Int32).toInt = 0 := rfl
  have e6 : (6 : Int32).toInt = 6 := rfl
  have := i_cl (a := x) (by omega)
  refine ⟨x.toNatClampNeg, by omega, ?_⟩
  rw [i_eq, i_nI (by omega)]
  omega
theorem pr_70 {now l : Int32} (hn : 0 ≤ now.toInt ∧ now.toInt ≤ 10000) (hl : 0 ≤ l.toInt ∧ l.toInt ≤ 10000) : now - l ≤ 70 ↔ ¬ l + 70 < now := by
  have e : (70 : Int32).toInt = 70 := rfl
  have h1 : (now - l).toInt = now.toInt - l.toInt := by rw [i_sub] <;> omega
  have h2 : (l + 70).toInt = l.toInt + 70 := by rw [i_add] <;> omega
  rw [i_le, i_lt, h1, h2, e]
  omega
set_option maxHeartbeats 4000000 in
set_option maxRecDepth 100000 in
theorem t_N_movement (l : Launch) (D : va_G) (cM cG cI cJ : ClassId) (r rr : Nat) (ra : Nat → Nat) (th : Int32) (Sr : Nat → Int32) (off : Int32) (nm ng : Nat) (now : Int32) (F : Nat → Nat → Int32) (R : Nat → Int32) (sz : Nat) (a : Int32) (b : Int32) (d9 : Int32) (s9 : Int32) (n9 : Int32) (v9 : Int32) (t9 : Nat) (hI : iv_S t9 (off, nm, ng, now, F, R)) (hSr : sr_P Sr (off, nm, ng, now, F, R)) : Met l y_N_movement (Cond.code y_N_movement c_N_movement 9 (some .int) :: tw_L) ({ frames := 1, cells := 0, slots := 0, locals := 27 } : Room) (mu_P D (ws_N cI r rr ra th Sr (off, nm, ng, now, F, R)) sz (fun _ _ => True) (yt_P D cM cG cI cJ) [.ref r, .int a, .int b, .int d9, .int s9, .int n9, .int v9]) (va_Qi (fun (v : Int32) (S1 : Nat → Int32) => ((sp_mv (off, nm, ng, now, F, R) a b d9 s9 n9 v9).1 = 0 → v = (sp_mv (off, nm, ng, now, F, R) a b d9 s9 n9 v9).2.1) ∧ sr_P S1 (sp_mv (off, nm, ng, now, F, R) a b d9 s9 n9 v9).2.2) (mu_B D (ws_N cI r rr ra th Sr (off, nm, ng, now, F, R)) sz (fun S1 => ws_N cI r rr ra (sp_mv (off, nm, ng, now, F, R) a b d9 s9 n9 v9).1 S1 (sp_mv (off, nm, ng, now, F, R) a b d9 s9 n9 v9).2.2)) (va_A (ws_N cI r rr ra th Sr (off, nm, ng, now, F, R)) sz)) 0 0 (va_A (ws_N cI r rr ra th Sr (off, nm, ng, now, F, R)) sz) := by
  refine Met.ofW (cc := c_N_movement) (maxL := 9) (ret := (some .int)) (by decide) rfl ?_
  intro p e s m args below meth c s₁ B hml hv
  obtain ⟨rfl, hsz, hP, hD0, hX, hY⟩ := hv
  have hx := B.exec
  have hb := B.bytes
  have hr := B.returns
  have htw : ∀ w ∈ tw_L, w.before _ s = true := fun w hw => atoms_spec (ws := (Cond.code y_N_movement c_N_movement 9 (some .int) :: tw_L)) B.pre w (List.mem_cons_of_mem _ hw)
  have hown : s.vm.findClass R_N = some m.cls := findClass_of_methodNamed B.named
  have hlocks := B.notSynchronized
  have hC : CallFix p m c c_N_movement 9 s _ tw_L R_N := ⟨hx, hb, hml, hown, htw⟩
  have hK := hY.1
  have hl := lv_entry ([.ref r, .int a, .int b, .int d9, .int s9, .int n9, .int v9]) (n := 9) (Nat.le_of_ble_eq_true rfl)
  rw [lg_entry_eq]
  generalize (lg_sl ([.ref r, .int a, .int b, .int d9, .int s9, .int n9, .int v9]) ++ List.replicate (9 - (lg_sl ([.ref r, .int a, .int b, .int d9, .int s9, .int n9, .int v9])).length) Slot.unset).toArray = ls at hl ⊢
  have hl : lv_has ls 9 [(0, .ref r), (1, .int a), (2, .int b), (3, .int d9), (4, .int s9), (5, .int n9), (6, .int v9)] := hl
  subst hsz
  obtain ⟨A, hAe⟩ : ∃ A : Nat → Prop, A = va_A (ws_N cI r rr ra th Sr (off, nm, ng, now, F, R)) s.heap.size := ⟨_, rfl⟩
  have hD : va_D A (ws_N cI r rr ra th Sr (off, nm, ng, now, F, R)) := by rw [hAe]; exact hD0.self
  have hA : ∀ q : Nat, s.heap.size ≤ q → A q := fun q h => by rw [hAe]; exact Or.inr h
  have hS : va_S A s.heap s.heap [] := va_S.rf
  obtain ⟨hof, hn20, hnow, ht4, hM, hZ, hG, hcn⟩ := id hI
  have hg200 : ng ≤ 200 := by have := cn_0 hM hcn; omega
  refine lv_aload_n hx hb d_N_movement_0 rfl (lv_at hl 0 rfl) ?_
  refine lv_iload_n hx hb d_N_movement_1 rfl (lv_at hl 1 rfl) ?_
  refine cp_V (n := 1) [.int a] hC (t_N_isOffice l D cM cG cI cJ r rr ra th Sr off nm ng now F R a) ⟨kc_N_isOffice, kn_N, k_N_83, ki_N_isOffice, kv_N_isOffice⟩ (by decide +kernel) ⟨rfl, rfl, Nat.le_of_ble_eq_true rfl, Nat.le_of_ble_eq_true rfl⟩ x_0 (yt_Y D cM cG cI cJ) hY hP (va_recv hK hP (ci := 3) (q0 := 0) rfl rfl) rfl hl.1 rfl (Nat.le_of_ble_eq_true rfl) d_N_movement_2 ⟨Nat.le_of_ble_eq_true rfl, Nat.le_of_ble_eq_true rfl⟩ (fun r1 h2 => ?_)
  rcases h2 with ⟨rfl, b3⟩ | ⟨rfl, b3⟩
  · refine lv_if_eq (tgt := 73) hx hb d_N_movement_5 (by decide) (fun q9 => absurd q9 (by decide)) (fun _ => ?_)
    refine lv_aload_n hx hb d_N_movement_8 rfl (lv_at hl 0 rfl) ?_
    refine lv_iload_n hx hb d_N_movement_9 rfl (lv_at hl 2 rfl) ?_
    refine cp_V (n := 1) [.int b] hC (t_N_isOffice l D cM cG cI cJ r rr ra th Sr off nm ng now F R b) ⟨kc_N_isOffice, kn_N, k_N_83, ki_N_isOffice, kv_N_isOffice⟩ (by decide +kernel) ⟨rfl, rfl, Nat.le_of_ble_eq_true rfl, Nat.le_of_ble_eq_true rfl⟩ x_0 (yt_Y D cM cG cI cJ) hY hP (va_recv hK hP (ci := 3) (q0 := 0) rfl rfl) rfl hl.1 rfl (Nat.le_of_ble_eq_true rfl) d_N_movement_10 ⟨Nat.le_of_ble_eq_true rfl, Nat.le_of_ble_eq_true rfl⟩ (fun r4 h5 => ?_)
    rcases h5 with ⟨rfl, b6⟩ | ⟨rfl, b6⟩
    · refine lv_if_eq (tgt := 73) hx hb d_N_movement_13 (by decide) (fun q9 => absurd q9 (by decide)) (fun _ => ?_)
      refine lv_iload_n hx hb d_N_movement_16 rfl (lv_at hl 1 rfl) ?_
      refine lv_iload_n hx hb d_N_movement_17 rfl (lv_at hl 2 rfl) ?_
      refine lv_icmp_eq (tgt := 73) hx hb d_N_movement_18 (by decide) (fun c7 => ?_) (fun c7 => ?_)
      · refine lv_iconst (v := 0) hx hb d_N_movement_73 (by decide) ?_
        refine lv_istore (lv' := [(7, .int 0), (0, .ref r), (1, .int a), (2, .int b), (3, .int d9), (4, .int s9), (5, .int n9), (6, .int v9)]) hx hb d_N_movement_74 hl (by decide) rfl (fun ls hl => ?_)
        refine lv_aload_n hx hb d_N_movement_76 rfl (lv_at hl 1 rfl) ?_
        refine lv_iload hx hb d_N_movement_77 (lv_at hl 0 rfl) ?_
        refine lv_if_ne (tgt := 86) hx hb d_N_movement_79 (by decide) (fun q9 => absurd rfl q9) (fun _ => ?_)
        refine lv_iconst (v := 1) hx hb d_N_movement_82 (by decide) ?_
        refine lv_goto (tgt := 100) hx hb d_N_movement_83 (by decide) ?_
        refine va_put (D := D) (ci := 3) (v := .int 1) (ty := .int) (C := R_N) (T := F_N) (N := 25) hx hb htw uw_N ft_N tk_N n_N hown hK hP hD hS 0 rfl rfl 0 (by decide) (htw _ k_N_74) (fun _ h9 => h9) rfl (by decide +kernel) rfl rfl (Nat.le_of_ble_eq_true rfl) d_N_movement_100 (fun H locs hP hD hS => ?_)
        have hP : va_P D cl_L (ws_N cI r rr ra 1 Sr (off, nm, ng, now, F, R)) H := hP
        have hD : va_D A (ws_N cI r rr ra 1 Sr (off, nm, ng, now, F, R)) := hD
        refine lv_aload_n hx hb d_N_movement_103 rfl (lv_at hl 1 rfl) ?_
        refine va_get (D := D) (C := R_N) (T := F_N) (N := 25) hx hb htw uw_N hown hK hP 0 rfl rfl 0 (by decide) (htw _ k_N_74) (fun _ h9 => h9) rfl d_N_movement_104 ?_
        refine lv_if_le (tgt := 112) hx hb d_N_movement_107 (by decide) (fun q9 => absurd q9 (by decide)) (fun _ => ?_)
        refine lv_iconst (v := 0) hx hb d_N_movement_110 (by decide) ?_
        subst hAe
        have e_S : sp_mv (off, nm, ng, now, F, R) a b d9 s9 n9 v9 = (1, 0, (off, nm, ng, now, F, R)) := by simp only [sp_mv]; rw [if_neg (fun q => q.2.2.1 c7)]
        exact W.iret (v := 0) hx hb hr (fun t ht hW => ⟨⟨_, Sr, rfl, ⟨fun _ => by rw [e_S], by rw [e_S]; exact hSr⟩, by rw [ht, e_S]; exact hP, by rw [e_S]; exact hD⟩, hS.F ht⟩) hS.2.2 d_N_movement_111
      · refine lv_iload_n hx hb d_N_movement_21 rfl (lv_at hl 3 rfl) ?_
        refine lv_aload_n hx hb d_N_movement_22 rfl (lv_at hl 0 rfl) ?_
        refine va_get (D := D) (C := R_N) (T := F_N) (N := 25) hx hb htw uw_N hown hK hP 0 rfl rfl 4 (by decide) (htw _ k_N_87) (fun _ h9 => h9) rfl d_N_movement_23 ?_
        refine lv_sipush (v := 10000) hx hb d_N_movement_26 (by decide) ?_
        refine cp_S (n := 3) [.int d9, .int now, .int 10000] hC (t_N_in l D cM cG cI cJ d9 now 10000) ⟨kc_N_in, kn_N, k_N_90, ks_N_in⟩ (by decide +kernel) ⟨rfl, rfl, Nat.le_of_ble_eq_true rfl, Nat.le_of_ble_eq_true rfl⟩ x_0 (yt_Y D cM cG cI cJ) hY trivial rfl hl.1 rfl (Nat.le_of_ble_eq_true rfl) d_N_movement_29 ⟨Nat.le_of_ble_eq_true rfl, Nat.le_of_ble_eq_true rfl⟩ (fun r8 h9 => ?_)
        rcases h9 with ⟨rfl, b10⟩ | ⟨rfl, b10⟩
        · refine lv_if_eq (tgt := 73) hx hb d_N_movement_32 (by decide) (fun q9 => absurd q9 (by decide)) (fun _ => ?_)
          refine lv_iload hx hb d_N_movement_35 (lv_at hl 4 rfl) ?_
          refine lv_iconst (v := 1) hx hb d_N_movement_37 (by decide) ?_
          refine lv_ldc (v := 1000000000) hx hb hown (htw _ k_N_94) d_N_movement_38 ?_
          refine cp_S (n := 3) [.int s9, .int 1, .int 1000000000] hC (t_N_in l D cM cG cI cJ s9 1 1000000000) ⟨kc_N_in, kn_N, k_N_90, ks_N_in⟩ (by decide +kernel) ⟨rfl, rfl, Nat.le_of_ble_eq_true rfl, Nat.le_of_ble_eq_true rfl⟩ x_0 (yt_Y D cM cG cI cJ) hY trivial rfl hl.1 rfl (Nat.le_of_ble_eq_true rfl) d_N_movement_40 ⟨Nat.le_of_ble_eq_true rfl, Nat.le_of_ble_eq_true rfl⟩ (fun r11 h12 => ?_)
          rcases h12 with ⟨rfl, b13⟩ | ⟨rfl, b13⟩
          · refine lv_if_eq (tgt := 73) hx hb d_N_movement_43 (by decide) (fun q9 => absurd q9 (by decide)) (fun _ => ?_)
            refine lv_iload hx hb d_N_movement_46 (lv_at hl 5 rfl) ?_
            refine lv_iconst (v := 1) hx hb d_N_movement_48 (by decide) ?_
            refine lv_sipush (v := 1000) hx hb d_N_movement_49 (by decide) ?_
            refine cp_S (n := 3) [.int n9, .int 1, .int 1000] hC (t_N_in l D cM cG cI cJ n9 1 1000) ⟨kc_N_in, kn_N, k_N_90, ks_N_in⟩ (by decide +kernel) ⟨rfl, rfl, Nat.le_of_ble_eq_true rfl, Nat.le_of_ble_eq_true rfl⟩ x_0 (yt_Y D cM cG cI cJ) hY trivial rfl hl.1 rfl (Nat.le_of_ble_eq_true rfl) d_N_movement_52 ⟨Nat.le_of_ble_eq_true rfl, Nat.le_of_ble_eq_true rfl⟩ (fun r14 h15 => ?_)
            rcases h15 with ⟨rfl, b16⟩ | ⟨rfl, b16⟩
            · refine lv_if_eq (tgt := 73) hx hb d_N_movement_55 (by decide) (fun q9 => absurd q9 (by decide)) (fun _ => ?_)
              refine lv_iload hx hb d_N_movement_58 (lv_at hl 6 rfl) ?_
              refine lv_iconst (v := 0) hx hb d_N_movement_60 (by decide) ?_
              refine lv_ldc (v := 1000000) hx hb hown (htw _ k_N_95) d_N_movement_61 ?_
              refine cp_S (n := 3) [.int v9, .int 0, .int 1000000] hC (t_N_in l D cM cG cI cJ v9 0 1000000) ⟨kc_N_in, kn_N, k_N_90, ks_N_in⟩ (by decide +kernel) ⟨rfl, rfl, Nat.le_of_ble_eq_true rfl, Nat.le_of_ble_eq_true rfl⟩ x_0 (yt_Y D cM cG cI cJ) hY trivial rfl hl.1 rfl (Nat.le_of_ble_eq_true rfl) d_N_movement_63 ⟨Nat.le_of_ble_eq_true rfl, Nat.le_of_ble_eq_true rfl⟩ (fun r17 h18 => ?_)
              rcases h18 with ⟨rfl, b19⟩ | ⟨rfl, b19⟩
              · refine lv_if_eq (tgt := 73) hx hb d_N_movement_66 (by decide) (fun q9 => absurd q9 (by decide)) (fun _ => ?_)
                refine lv_iconst (v := 1) hx hb d_N_movement_69 (by decide) ?_
                refine lv_goto (tgt := 74) hx hb d_N_movement_70 (by decide) ?_
                refine lv_istore (lv' := [(7, .int 1), (0, .ref r), (1, .int a), (2, .int b), (3, .int d9), (4, .int s9), (5, .int n9), (6, .int v9)]) hx hb d_N_movement_74 hl (by decide) rfl (fun ls hl => ?_)
                refine lv_aload_n hx hb d_N_movement_76 rfl (lv_at hl 1 rfl) ?_
                refine lv_iload hx hb d_N_movement_77 (lv_at hl 0 rfl) ?_
                refine lv_if_ne (tgt := 86) hx hb d_N_movement_79 (by decide) (fun _ => ?_) (fun q9 => absurd q9 (by decide))
                refine lv_aload_n hx hb d_N_movement_86 rfl (lv_at hl 1 rfl) ?_
                refine va_get (D := D) (C := R_N) (T := F_N) (N := 25) hx hb htw uw_N hown hK hP 0 rfl rfl 2 (by decide) (htw _ k_N_77) (fun _ h9 => h9) rfl d_N_movement_87 ?_
                refine lv_bipush (v := 20) hx hb d_N_movement_90 (by decide) ?_
                refine lv_icmp_ne (tgt := 99) hx hb d_N_movement_92 (by decide) (fun c20 => ?_) (fun c20 => ?_)
                · refine lv_iconst (v := 0) hx hb d_N_movement_99 (by decide) ?_
                  refine va_put (D := D) (ci := 3) (v := .int 0) (ty := .int) (C := R_N) (T := F_N) (N := 25) hx hb htw uw_N ft_N tk_N n_N hown hK hP hD hS 0 rfl rfl 0 (by decide) (htw _ k_N_74) (fun _ h9 => h9) rfl (by decide +kernel) rfl rfl (Nat.le_of_ble_eq_true rfl) d_N_movement_100 (fun H locs hP hD hS => ?_)
                  have hP : va_P D cl_L (ws_N cI r rr ra 0 Sr (off, nm, ng, now, F, R)) H := hP
                  have hD : va_D A (ws_N cI r rr ra 0 Sr (off, nm, ng, now, F, R)) := hD
                  refine lv_aload_n hx hb d_N_movement_103 rfl (lv_at hl 1 rfl) ?_
                  refine va_get (D := D) (C := R_N) (T := F_N) (N := 25) hx hb htw uw_N hown hK hP 0 rfl rfl 0 (by decide) (htw _ k_N_74) (fun _ h9 => h9) rfl d_N_movement_104 ?_
                  refine lv_if_le (tgt := 112) hx hb d_N_movement_107 (by decide) (fun _ => ?_) (fun q9 => (q9 (by decide)).elim)
                  have hnm : nm < 20 := by rcases Nat.lt_or_ge nm 20 with q | q; exact q; exact absurd (show nI nm = 20 by rw [show nm = 20 by omega]; rfl) c20
                  refine lv_aload_n hx hb d_N_movement_112 rfl (lv_at hl 1 rfl) ?_
                  refine va_get (D := D) (C := R_N) (T := F_N) (N := 25) hx hb htw uw_N hown hK hP 0 rfl rfl 2 (by decide) (htw _ k_N_77) (fun _ h9 => h9) rfl d_N_movement_113 ?_
                  refine lv_istore (lv' := [(8, .int (nI nm)), (7, .int 1), (0, .ref r), (1, .int a), (2, .int b), (3, .int d9), (4, .int s9), (5, .int n9), (6, .int v9)]) hx hb d_N_movement_116 hl (by decide) rfl (fun ls hl => ?_)
                  refine lv_aload_n hx hb d_N_movement_118 rfl (lv_at hl 2 rfl) ?_
                  refine va_get (D := D) (C := R_N) (T := F_N) (N := 25) hx hb htw uw_N hown hK hP 0 rfl rfl 5 (by decide) (htw _ k_N_7) (fun _ h9 => h9) rfl d_N_movement_119 ?_
                  refine lv_iload hx hb d_N_movement_122 (lv_at hl 0 rfl) ?_
                  refine lv_iload_n hx hb d_N_movement_124 rfl (lv_at hl 3 rfl) ?_
                  refine ar_st hx hb hK hP hD hS 2 2 rfl rfl hnm (by decide) d_N_movement_125 (fun H locs hP hD hS => ?_)
                  have hP : va_P D cl_L (ws_N cI r rr ra 0 Sr (off, nm, ng, now, up_F F 0 nm a, R)) H := hP
                  have hD : va_D A (ws_N cI r rr ra 0 Sr (off, nm, ng, now, up_F F 0 nm a, R)) := hD
                  refine lv_aload_n hx hb d_N_movement_126 rfl (lv_at hl 2 rfl) ?_
                  refine va_get (D := D) (C := R_N) (T := F_N) (N := 25) hx hb htw uw_N hown hK hP 0 rfl rfl 6 (by decide) (htw _ k_N_13) (fun _ h9 => h9) rfl d_N_movement_127 ?_
                  refine lv_iload hx hb d_N_movement_130 (lv_at hl 0 rfl) ?_
                  refine lv_iload_n hx hb d_N_movement_132 rfl (lv_at hl 4 rfl) ?_
                  refine ar_st hx hb hK hP hD hS 3 2 rfl rfl hnm (by decide) d_N_movement_133 (fun H locs hP hD hS => ?_)
                  have hP : va_P D cl_L (ws_N cI r rr ra 0 Sr (off, nm, ng, now, up_F (up_F F 0 nm a) 1 nm b, R)) H := hP
                  have hD : va_D A (ws_N cI r rr ra 0 Sr (off, nm, ng, now, up_F (up_F F 0 nm a) 1 nm b, R)) := hD
                  refine lv_aload_n hx hb d_N_movement_134 rfl (lv_at hl 2 rfl) ?_
                  refine va_get (D := D) (C := R_N) (T := F_N) (N := 25) hx hb htw uw_N hown hK hP 0 rfl rfl 7 (by decide) (htw _ k_N_16) (fun _ h9 => h9) rfl d_N_movement_135 ?_
                  refine lv_iload hx hb d_N_movement_138 (lv_at hl 0 rfl) ?_
                  refine lv_iload_n hx hb d_N_movement_140 rfl (lv_at hl 5 rfl) ?_
                  refine ar_st hx hb hK hP hD hS 4 2 rfl rfl hnm (by decide) d_N_movement_141 (fun H locs hP hD hS => ?_)
                  have hP : va_P D cl_L (ws_N cI r rr ra 0 Sr (off, nm, ng, now, up_F (up_F (up_F F 0 nm a) 1 nm b) 2 nm d9, R)) H := hP
                  have hD : va_D A (ws_N cI r rr ra 0 Sr (off, nm, ng, now, up_F (up_F (up_F F 0 nm a) 1 nm b) 2 nm d9, R)) := hD
                  refine lv_aload_n hx hb d_N_movement_142 rfl (lv_at hl 2 rfl) ?_
                  refine va_get (D := D) (C := R_N) (T := F_N) (N := 25) hx hb htw uw_N hown hK hP 0 rfl rfl 8 (by decide) (htw _ k_N_19) (fun _ h9 => h9) rfl d_N_movement_143 ?_
                  refine lv_iload hx hb d_N_movement_146 (lv_at hl 0 rfl) ?_
                  refine lv_iload hx hb d_N_movement_148 (lv_at hl 6 rfl) ?_
                  refine ar_st hx hb hK hP hD hS 5 2 rfl rfl hnm (by decide) d_N_movement_150 (fun H locs hP hD hS => ?_)
                  have hP : va_P D cl_L (ws_N cI r rr ra 0 Sr (off, nm, ng, now, up_F (up_F (up_F (up_F F 0 nm a) 1 nm b) 2 nm d9) 3 nm s9, R)) H := hP
                  have hD : va_D A (ws_N cI r rr ra 0 Sr (off, nm, ng, now, up_F (up_F (up_F (up_F F 0 nm a) 1 nm b) 2 nm d9) 3 nm s9, R)) := hD
                  refine lv_aload_n hx hb d_N_movement_151 rfl (lv_at hl 2 rfl) ?_
                  refine va_get (D := D) (C := R_N) (T := F_N) (N := 25) hx hb htw uw_N hown hK hP 0 rfl rfl 9 (by decide) (htw _ k_N_22) (fun _ h9 => h9) rfl d_N_movement_152 ?_
                  refine lv_iload hx hb d_N_movement_155 (lv_at hl 0 rfl) ?_
                  refine lv_iload hx hb d_N_movement_157 (lv_at hl 7 rfl) ?_
                  refine ar_st hx hb hK hP hD hS 6 2 rfl rfl hnm (by decide) d_N_movement_159 (fun H locs hP hD hS => ?_)
                  have hP : va_P D cl_L (ws_N cI r rr ra 0 Sr (off, nm, ng, now, up_F (up_F (up_F (up_F (up_F F 0 nm a) 1 nm b) 2 nm d9) 3 nm s9) 4 nm n9, R)) H := hP
                  have hD : va_D A (ws_N cI r rr ra 0 Sr (off, nm, ng, now, up_F (up_F (up_F (up_F (up_F F 0 nm a) 1 nm b) 2 nm d9) 3 nm s9) 4 nm n9, R)) := hD
                  refine lv_aload_n hx hb d_N_movement_160 rfl (lv_at hl 2 rfl) ?_
                  refine va_get (D := D) (C := R_N) (T := F_N) (N := 25) hx hb htw uw_N hown hK hP 0 rfl rfl 10 (by decide) (htw _ k_N_25) (fun _ h9 => h9) rfl d_N_movement_161 ?_
                  refine lv_iload hx hb d_N_movement_164 (lv_at hl 0 rfl) ?_
                  refine lv_iload hx hb d_N_movement_166 (lv_at hl 8 rfl) ?_
                  refine ar_st hx hb hK hP hD hS 7 2 rfl rfl hnm (by decide) d_N_movement_168 (fun H locs hP hD hS => ?_)
                  have hP : va_P D cl_L (ws_N cI r rr ra 0 Sr (off, nm, ng, now, up_F (up_F (up_F (up_F (up_F (up_F F 0 nm a) 1 nm b) 2 nm d9) 3 nm s9) 4 nm n9) 5 nm v9, R)) H := hP
                  have hD : va_D A (ws_N cI r rr ra 0 Sr (off, nm, ng, now, up_F (up_F (up_F (up_F (up_F (up_F F 0 nm a) 1 nm b) 2 nm d9) 3 nm s9) 4 nm n9) 5 nm v9, R)) := hD
                  refine lv_aload_n hx hb d_N_movement_169 rfl (lv_at hl 2 rfl) ?_
                  refine va_get (D := D) (C := R_N) (T := F_N) (N := 25) hx hb htw uw_N hown hK hP 0 rfl rfl 11 (by decide) (htw _ k_N_28) (fun _ h9 => h9) rfl d_N_movement_170 ?_
                  refine lv_iload hx hb d_N_movement_173 (lv_at hl 0 rfl) ?_
                  refine lv_iconst (v := (-1)) hx hb d_N_movement_175 (by decide) ?_
                  refine ar_st hx hb hK hP hD hS 8 2 rfl rfl hnm (by decide) d_N_movement_176 (fun H locs hP hD hS => ?_)
                  have hP : va_P D cl_L (ws_N cI r rr ra 0 Sr (off, nm, ng, now, up_F (up_F (up_F (up_F (up_F (up_F (up_F F 0 nm a) 1 nm b) 2 nm d9) 3 nm s9) 4 nm n9) 5 nm v9) 6 nm (-1), R)) H := hP
                  have hD : va_D A (ws_N cI r rr ra 0 Sr (off, nm, ng, now, up_F (up_F (up_F (up_F (up_F (up_F (up_F F 0 nm a) 1 nm b) 2 nm d9) 3 nm s9) 4 nm n9) 5 nm v9) 6 nm (-1), R)) := hD
                  have hP : va_P D cl_L (ws_N cI r rr ra 0 Sr (off, nm, ng, now, up_F (up_F (up_F (up_F (up_F (up_F (up_F (up_F F 0 nm a) 1 nm b) 2 nm d9) 3 nm s9) 4 nm n9) 5 nm v9) 6 nm (-1)) 7 nm (-1), R)) H := hP
                  have hD : va_D A (ws_N cI r rr ra 0 Sr (off, nm, ng, now, up_F (up_F (up_F (up_F (up_F (up_F (up_F (up_F F 0 nm a) 1 nm b) 2 nm d9) 3 nm s9) 4 nm n9) 5 nm v9) 6 nm (-1)) 7 nm (-1), R)) := hD
                  refine lv_aload_n hx hb d_N_movement_177 rfl (lv_at hl 2 rfl) ?_
                  refine va_get (D := D) (C := R_N) (T := F_N) (N := 25) hx hb htw uw_N hown hK hP 0 rfl rfl 14 (by decide) (htw _ k_N_37) (fun _ h9 => h9) rfl d_N_movement_178 ?_
                  refine lv_iload hx hb d_N_movement_181 (lv_at hl 0 rfl) ?_
                  refine lv_iconst (v := (-1)) hx hb d_N_movement_183 (by decide) ?_
                  refine ar_st hx hb hK hP hD hS 11 2 rfl rfl hnm (by decide) d_N_movement_184 (fun H locs hP hD hS => ?_)
                  have hP : va_P D cl_L (ws_N cI r rr ra 0 Sr (off, nm, ng, now, up_F (up_F (up_F (up_F (up_F (up_F (up_F (up_F (up_F F 0 nm a) 1 nm b) 2 nm d9) 3 nm s9) 4 nm n9) 5 nm v9) 6 nm (-1)) 7 nm (-1)) 9 nm (-1), R)) H := hP
                  have hD : va_D A (ws_N cI r rr ra 0 Sr (off, nm, ng, now, up_F (up_F (up_F (up_F (up_F (up_F (up_F (up_F (up_F F 0 nm a) 1 nm b) 2 nm d9) 3 nm s9) 4 nm n9) 5 nm v9) 6 nm (-1)) 7 nm (-1)) 9 nm (-1), R)) := hD
                  refine lv_aload_n hx hb d_N_movement_185 rfl (lv_at hl 2 rfl) ?_
                  refine va_get (D := D) (C := R_N) (T := F_N) (N := 25) hx hb htw uw_N hown hK hP 0 rfl rfl 15 (by decide) (htw _ k_N_40) (fun _ h9 => h9) rfl d_N_movement_186 ?_
                  refine lv_iload hx hb d_N_movement_189 (lv_at hl 0 rfl) ?_
                  refine lv_iconst (v := 1) hx hb d_N_movement_191 (by decide) ?_
                  refine ar_st hx hb hK hP hD hS 12 2 rfl rfl hnm (by decide) d_N_movement_192 (fun H locs hP hD hS => ?_)
                  have hP : va_P D cl_L (ws_N cI r rr ra 0 Sr (off, nm, ng, now, up_F (up_F (up_F (up_F (up_F (up_F (up_F (up_F (up_F (up_F F 0 nm a) 1 nm b) 2 nm d9) 3 nm s9) 4 nm n9) 5 nm v9) 6 nm (-1)) 7 nm (-1)) 9 nm (-1)) 10 nm 1, R)) H := hP
                  have hD : va_D A (ws_N cI r rr ra 0 Sr (off, nm, ng, now, up_F (up_F (up_F (up_F (up_F (up_F (up_F (up_F (up_F (up_F F 0 nm a) 1 nm b) 2 nm d9) 3 nm s9) 4 nm n9) 5 nm v9) 6 nm (-1)) 7 nm (-1)) 9 nm (-1)) 10 nm 1, R)) := hD
                  refine lv_aload_n hx hb d_N_movement_193 rfl (lv_at hl 2 rfl) ?_
                  refine va_get (D := D) (C := R_N) (T := F_N) (N := 25) hx hb htw uw_N hown hK hP 0 rfl rfl 19 (by decide) (htw _ k_N_52) (fun _ h9 => h9) rfl d_N_movement_194 ?_
                  refine lv_iload hx hb d_N_movement_197 (lv_at hl 0 rfl) ?_
                  refine lv_iconst (v := (-1)) hx hb d_N_movement_199 (by decide) ?_
                  refine ar_st hx hb hK hP hD hS 16 2 rfl rfl hnm (by decide) d_N_movement_200 (fun H locs hP hD hS => ?_)
                  have hP : va_P D cl_L (ws_N cI r rr ra 0 Sr (off, nm, ng, now, up_F (up_F (up_F (up_F (up_F (up_F (up_F (up_F (up_F (up_F (up_F F 0 nm a) 1 nm b) 2 nm d9) 3 nm s9) 4 nm n9) 5 nm v9) 6 nm (-1)) 7 nm (-1)) 9 nm (-1)) 10 nm 1) 14 nm (-1), R)) H := hP
                  have hD : va_D A (ws_N cI r rr ra 0 Sr (off, nm, ng, now, up_F (up_F (up_F (up_F (up_F (up_F (up_F (up_F (up_F (up_F (up_F F 0 nm a) 1 nm b) 2 nm d9) 3 nm s9) 4 nm n9) 5 nm v9) 6 nm (-1)) 7 nm (-1)) 9 nm (-1)) 10 nm 1) 14 nm (-1), R)) := hD
                  refine lv_aload_n hx hb d_N_movement_201 rfl (lv_at hl 2 rfl) ?_
                  refine va_get (D := D) (C := R_N) (T := F_N) (N := 25) hx hb htw uw_N hown hK hP 0 rfl rfl 20 (by decide) (htw _ k_N_55) (fun _ h9 => h9) rfl d_N_movement_202 ?_
                  refine lv_iload hx hb d_N_movement_205 (lv_at hl 0 rfl) ?_
                  refine lv_iconst (v := (-1)) hx hb d_N_movement_207 (by decide) ?_
                  refine ar_st hx hb hK hP hD hS 17 2 rfl rfl hnm (by decide) d_N_movement_208 (fun H locs hP hD hS => ?_)
                  have hP : va_P D cl_L (ws_N cI r rr ra 0 Sr (off, nm, ng, now, up_F (up_F (up_F (up_F (up_F (up_F (up_F (up_F (up_F (up_F (up_F (up_F F 0 nm a) 1 nm b) 2 nm d9) 3 nm s9) 4 nm n9) 5 nm v9) 6 nm (-1)) 7 nm (-1)) 9 nm (-1)) 10 nm 1) 14 nm (-1)) 15 nm (-1), R)) H := hP
                  have hD : va_D A (ws_N cI r rr ra 0 Sr (off, nm, ng, now, up_F (up_F (up_F (up_F (up_F (up_F (up_F (up_F (up_F (up_F (up_F (up_F F 0 nm a) 1 nm b) 2 nm d9) 3 nm s9) 4 nm n9) 5 nm v9) 6 nm (-1)) 7 nm (-1)) 9 nm (-1)) 10 nm 1) 14 nm (-1)) 15 nm (-1), R)) := hD
                  refine lv_aload_n hx hb d_N_movement_209 rfl (lv_at hl 2 rfl) ?_
                  refine va_get (D := D) (C := R_N) (T := F_N) (N := 25) hx hb htw uw_N hown hK hP 0 rfl rfl 21 (by decide) (htw _ k_N_58) (fun _ h9 => h9) rfl d_N_movement_210 ?_
                  refine lv_iload hx hb d_N_movement_213 (lv_at hl 0 rfl) ?_
                  refine lv_iconst (v := (-1)) hx hb d_N_movement_215 (by decide) ?_
                  refine ar_st hx hb hK hP hD hS 18 2 rfl rfl hnm (by decide) d_N_movement_216 (fun H locs hP hD hS => ?_)
                  have hP : va_P D cl_L (ws_N cI r rr ra 0 Sr (off, nm, ng, now, up_F (up_F (up_F (up_F (up_F (up_F (up_F (up_F (up_F (up_F (up_F (up_F (up_F F 0 nm a) 1 nm b) 2 nm d9) 3 nm s9) 4 nm n9) 5 nm v9) 6 nm (-1)) 7 nm (-1)) 9 nm (-1)) 10 nm 1) 14 nm (-1)) 15 nm (-1)) 16 nm (-1), R)) H := hP
                  have hD : va_D A (ws_N cI r rr ra 0 Sr (off, nm, ng, now, up_F (up_F (up_F (up_F (up_F (up_F (up_F (up_F (up_F (up_F (up_F (up_F (up_F F 0 nm a) 1 nm b) 2 nm d9) 3 nm s9) 4 nm n9) 5 nm v9) 6 nm (-1)) 7 nm (-1)) 9 nm (-1)) 10 nm 1) 14 nm (-1)) 15 nm (-1)) 16 nm (-1), R)) := hD
                  refine lv_aload_n hx hb d_N_movement_217 rfl (lv_at hl 2 rfl) ?_
                  refine lv_dup hx hb d_N_movement_218 rfl ?_
                  refine va_get (D := D) (C := R_N) (T := F_N) (N := 25) hx hb htw uw_N hown hK hP 0 rfl rfl 2 (by decide) (htw _ k_N_77) (fun _ h9 => h9) rfl d_N_movement_219 ?_
                  refine lv_iconst (v := 1) hx hb d_N_movement_222 (by decide) ?_
                  refine lv_iadd hx hb d_N_movement_223 ?_
                  refine sk_as (y := nI (nm + 1)) (nI_add (nm) 1) ?_
                  refine va_put (D := D) (ci := 3) (v := .int (nI (nm + 1))) (ty := .int) (C := R_N) (T := F_N) (N := 25) hx hb htw uw_N ft_N tk_N n_N hown hK hP hD hS 0 rfl rfl 2 (by decide) (htw _ k_N_77) (fun _ h9 => h9) rfl (by decide +kernel) rfl rfl (Nat.le_of_ble_eq_true rfl) d_N_movement_224 (fun H locs hP hD hS => ?_)
                  have e_n : ((nI (nm + 1)) : Int32) = nI (nm + 1) := rfl
                  rw [e_n] at hP hD
                  have hP : va_P D cl_L (ws_N cI r rr ra 0 Sr (off, nm + 1, ng, now, up_F (up_F (up_F (up_F (up_F (up_F (up_F (up_F (up_F (up_F (up_F (up_F (up_F F 0 nm a) 1 nm b) 2 nm d9) 3 nm s9) 4 nm n9) 5 nm v9) 6 nm (-1)) 7 nm (-1)) 9 nm (-1)) 10 nm 1) 14 nm (-1)) 15 nm (-1)) 16 nm (-1), R)) H := hP
                  have hD : va_D A (ws_N cI r rr ra 0 Sr (off, nm + 1, ng, now, up_F (up_F (up_F (up_F (up_F (up_F (up_F (up_F (up_F (up_F (up_F (up_F (up_F F 0 nm a) 1 nm b) 2 nm d9) 3 nm s9) 4 nm n9) 5 nm v9) 6 nm (-1)) 7 nm (-1)) 9 nm (-1)) 10 nm 1) 14 nm (-1)) 15 nm (-1)) 16 nm (-1), R)) := hD
                  refine lv_aload_n hx hb d_N_movement_227 rfl (lv_at hl 2 rfl) ?_
                  refine lv_iconst (v := 1) hx hb d_N_movement_228 (by decide) ?_
                  refine lv_iload hx hb d_N_movement_229 (lv_at hl 0 rfl) ?_
                  refine lv_iload_n hx hb d_N_movement_231 rfl (lv_at hl 3 rfl) ?_
                  refine lv_iload_n hx hb d_N_movement_232 rfl (lv_at hl 4 rfl) ?_
                  refine lv_iload hx hb d_N_movement_233 (lv_at hl 7 rfl) ?_
                  refine lv_iload_n hx hb d_N_movement_235 rfl (lv_at hl 5 rfl) ?_
                  have hF9 := wk_F hD hS hA
                  refine cm_V (n := 6) [.int 1, .int (nI nm), .int a, .int b, .int n9, .int d9] hC (t_N_send l D cM cG cI cJ r rr ra 0 Sr off (nm + 1) ng now (up_F (up_F (up_F (up_F (up_F (up_F (up_F (up_F (up_F (up_F (up_F (up_F (up_F F 0 nm a) 1 nm b) 2 nm d9) 3 nm s9) 4 nm n9) 5 nm v9) 6 nm (-1)) 7 nm (-1)) 9 nm (-1)) 10 nm 1) 14 nm (-1)) 15 nm (-1)) 16 nm (-1)) R _ 1 (nI nm) a b n9 d9 (show ng < 400 by omega)) ⟨kc_N_send, kn_N, k_N_96, ki_N_send, kv_N_send⟩ (by decide +kernel) ⟨rfl, rfl, Nat.le_of_ble_eq_true rfl, Nat.le_of_ble_eq_true rfl⟩ x_0 (yt_Y D cM cG cI cJ) hY trivial (va_recv hK hP (ci := 3) (q0 := 0) rfl rfl) hP (wk_T hD) hS hF9 rfl hl.1 rfl (Nat.le_of_ble_eq_true rfl) d_N_movement_236 ⟨Nat.le_of_ble_eq_true rfl, Nat.le_of_ble_eq_true rfl⟩ (fun _ H locs _ hP1 hD1 hz9 hk9 hS => ?_)
                  have hP : va_P D cl_L (ws_N cI r rr ra 0 Sr (off, nm + 1, ng + 1, now, up_F (up_F (up_F (up_F (up_F (up_F (up_F (up_F (up_F (up_F (up_F (up_F (up_F F 0 nm a) 1 nm b) 2 nm d9) 3 nm s9) 4 nm n9) 5 nm v9) 6 nm (-1)) 7 nm (-1)) 9 nm (-1)) 10 nm 1) 14 nm (-1)) 15 nm (-1)) 16 nm (-1), sn_R R ng 1 (nI nm) a b n9 d9)) H := hP1
                  have hD : va_D A (ws_N cI r rr ra 0 Sr (off, nm + 1, ng + 1, now, up_F (up_F (up_F (up_F (up_F (up_F (up_F (up_F (up_F (up_F (up_F (up_F (up_F F 0 nm a) 1 nm b) 2 nm d9) 3 nm s9) 4 nm n9) 5 nm v9) 6 nm (-1)) 7 nm (-1)) 9 nm (-1)) 10 nm 1) 14 nm (-1)) 15 nm (-1)) 16 nm (-1), sn_R R ng 1 (nI nm) a b n9 d9)) := wk_D hD1 hF9
                  refine lv_iload hx hb d_N_movement_239 (lv_at hl 0 rfl) ?_
                  subst hAe
                  have e_S : sp_mv (off, nm, ng, now, F, R) a b d9 s9 n9 v9 = (0, (nI nm), (off, nm + 1, ng + 1, now, up_F (up_F (up_F (up_F (up_F (up_F (up_F (up_F (up_F (up_F (up_F (up_F (up_F F 0 nm a) 1 nm b) 2 nm d9) 3 nm s9) 4 nm n9) 5 nm v9) 6 nm (-1)) 7 nm (-1)) 9 nm (-1)) 10 nm 1) 14 nm (-1)) 15 nm (-1)) 16 nm (-1), sn_R R ng 1 (nI nm) a b n9 d9)) := by simp only [sp_mv, nw_F]; rw [if_pos ⟨b3, b6, c7, b10, b13, b16, b19⟩, if_neg (show ¬ nm = 20 by omega)]
                  exact W.iret (v := (nI nm)) hx hb hr (fun t ht hW => ⟨⟨_, Sr, rfl, ⟨fun _ => by rw [e_S], by rw [e_S]; exact sr_mv hSr⟩, by rw [ht, e_S]; exact hP, by rw [e_S]; exact hD⟩, hS.F ht⟩) hS.2.2 d_N_movement_241
                · refine lv_iconst (v := 2) hx hb d_N_movement_95 (by decide) ?_
                  refine lv_goto (tgt := 100) hx hb d_N_movement_96 (by decide) ?_
                  refine va_put (D := D) (ci := 3) (v := .int 2) (ty := .int) (C := R_N) (T := F_N) (N := 25) hx hb htw uw_N ft_N tk_N n_N hown hK hP hD hS 0 rfl rfl 0 (by decide) (htw _ k_N_74) (fun _ h9 => h9) rfl (by decide +kernel) rfl rfl (Nat.le_of_ble_eq_true rfl) d_N_movement_100 (fun H locs hP hD hS => ?_)
                  have hP : va_P D cl_L (ws_N cI r rr ra 2 Sr (off, nm, ng, now, F, R)) H := hP
                  have hD : va_D A (ws_N cI r rr ra 2 Sr (off, nm, ng, now, F, R)) := hD
                  refine lv_aload_n hx hb d_N_movement_103 rfl (lv_at hl 1 rfl) ?_
                  refine va_get (D := D) (C := R_N) (T := F_N) (N := 25) hx hb htw uw_N hown hK hP 0 rfl rfl 0 (by decide) (htw _ k_N_74) (fun _ h9 => h9) rfl d_N_movement_104 ?_
                  refine lv_if_le (tgt := 112) hx hb d_N_movement_107 (by decide) (fun q9 => absurd q9 (by decide)) (fun _ => ?_)
                  refine lv_iconst (v := 0) hx hb d_N_movement_110 (by decide) ?_
                  subst hAe
                  have e_S : sp_mv (off, nm, ng, now, F, R) a b d9 s9 n9 v9 = (2, 0, (off, nm, ng, now, F, R)) := by simp only [sp_mv]; rw [if_pos ⟨b3, b6, c7, b10, b13, b16, b19⟩, if_pos (nm_20 c20 hn20)]
                  exact W.iret (v := 0) hx hb hr (fun t ht hW => ⟨⟨_, Sr, rfl, ⟨fun _ => by rw [e_S], by rw [e_S]; exact hSr⟩, by rw [ht, e_S]; exact hP, by rw [e_S]; exact hD⟩, hS.F ht⟩) hS.2.2 d_N_movement_111
              · refine lv_if_eq (tgt := 73) hx hb d_N_movement_66 (by decide) (fun _ => ?_) (fun q9 => absurd rfl q9)
                refine lv_iconst (v := 0) hx hb d_N_movement_73 (by decide) ?_
                refine lv_istore (lv' := [(7, .int 0), (0, .ref r), (1, .int a), (2, .int b), (3, .int d9), (4, .int s9), (5, .int n9), (6, .int v9)]) hx hb d_N_movement_74 hl (by decide) rfl (fun ls hl => ?_)
                refine lv_aload_n hx hb d_N_movement_76 rfl (lv_at hl 1 rfl) ?_
                refine lv_iload hx hb d_N_movement_77 (lv_at hl 0 rfl) ?_
                refine lv_if_ne (tgt := 86) hx hb d_N_movement_79 (by decide) (fun q9 => absurd rfl q9) (fun _ => ?_)
                refine lv_iconst (v := 1) hx hb d_N_movement_82 (by decide) ?_
                refine lv_goto (tgt := 100) hx hb d_N_movement_83 (by decide) ?_
                refine va_put (D := D) (ci := 3) (v := .int 1) (ty := .int) (C := R_N) (T := F_N) (N := 25) hx hb htw uw_N ft_N tk_N n_N hown hK hP hD hS 0 rfl rfl 0 (by decide) (htw _ k_N_74) (fun _ h9 => h9) rfl (by decide +kernel) rfl rfl (Nat.le_of_ble_eq_true rfl) d_N_movement_100 (fun H locs hP hD hS => ?_)
                have hP : va_P D cl_L (ws_N cI r rr ra 1 Sr (off, nm, ng, now, F, R)) H := hP
                have hD : va_D A (ws_N cI r rr ra 1 Sr (off, nm, ng, now, F, R)) := hD
                refine lv_aload_n hx hb d_N_movement_103 rfl (lv_at hl 1 rfl) ?_
                refine va_get (D := D) (C := R_N) (T := F_N) (N := 25) hx hb htw uw_N hown hK hP 0 rfl rfl 0 (by decide) (htw _ k_N_74) (fun _ h9 => h9) rfl d_N_movement_104 ?_
                refine lv_if_le (tgt := 112) hx hb d_N_movement_107 (by decide) (fun q9 => absurd q9 (by decide)) (fun _ => ?_)
                refine lv_iconst (v := 0) hx hb d_N_movement_110 (by decide) ?_
                subst hAe
                have e_S : sp_mv (off, nm, ng, now, F, R) a b d9 s9 n9 v9 = (1, 0, (off, nm, ng, now, F, R)) := by simp only [sp_mv]; rw [if_neg (fun q => b19 q.2.2.2.2.2.2)]
                exact W.iret (v := 0) hx hb hr (fun t ht hW => ⟨⟨_, Sr, rfl, ⟨fun _ => by rw [e_S], by rw [e_S]; exact hSr⟩, by rw [ht, e_S]; exact hP, by rw [e_S]; exact hD⟩, hS.F ht⟩) hS.2.2 d_N_movement_111
            · refine lv_if_eq (tgt := 73) hx hb d_N_movement_55 (by decide) (fun _ => ?_) (fun q9 => absurd rfl q9)
              refine lv_iconst (v := 0) hx hb d_N_movement_73 (by decide) ?_
              refine lv_istore (lv' := [(7, .int 0), (0, .ref r), (1, .int a), (2, .int b), (3, .int d9), (4, .int s9), (5, .int n9), (6, .int v9)]) hx hb d_N_movement_74 hl (by decide) rfl (fun ls hl => ?_)
              refine lv_aload_n hx hb d_N_movement_76 rfl (lv_at hl 1 rfl) ?_
              refine lv_iload hx hb d_N_movement_77 (lv_at hl 0 rfl) ?_
              refine lv_if_ne (tgt := 86) hx hb d_N_movement_79 (by decide) (fun q9 => absurd rfl q9) (fun _ => ?_)
              refine lv_iconst (v := 1) hx hb d_N_movement_82 (by decide) ?_
              refine lv_goto (tgt := 100) hx hb d_N_movement_83 (by decide) ?_
              refine va_put (D := D) (ci := 3) (v := .int 1) (ty := .int) (C := R_N) (T := F_N) (N := 25) hx hb htw uw_N ft_N tk_N n_N hown hK hP hD hS 0 rfl rfl 0 (by decide) (htw _ k_N_74) (fun _ h9 => h9) rfl (by decide +kernel) rfl rfl (Nat.le_of_ble_eq_true rfl) d_N_movement_100 (fun H locs hP hD hS => ?_)
              have hP : va_P D cl_L (ws_N cI r rr ra 1 Sr (off, nm, ng, now, F, R)) H := hP
              have hD : va_D A (ws_N cI r rr ra 1 Sr (off, nm, ng, now, F, R)) := hD
              refine lv_aload_n hx hb d_N_movement_103 rfl (lv_at hl 1 rfl) ?_
              refine va_get (D := D) (C := R_N) (T := F_N) (N := 25) hx hb htw uw_N hown hK hP 0 rfl rfl 0 (by decide) (htw _ k_N_74) (fun _ h9 => h9) rfl d_N_movement_104 ?_
              refine lv_if_le (tgt := 112) hx hb d_N_movement_107 (by decide) (fun q9 => absurd q9 (by decide)) (fun _ => ?_)
              refine lv_iconst (v := 0) hx hb d_N_movement_110 (by decide) ?_
              subst hAe
              have e_S : sp_mv (off, nm, ng, now, F, R) a b d9 s9 n9 v9 = (1, 0, (off, nm, ng, now, F, R)) := by simp only [sp_mv]; rw [if_neg (fun q => b16 q.2.2.2.2.2.1)]
              exact W.iret (v := 0) hx hb hr (fun t ht hW => ⟨⟨_, Sr, rfl, ⟨fun _ => by rw [e_S], by rw [e_S]; exact hSr⟩, by rw [ht, e_S]; exact hP, by rw [e_S]; exact hD⟩, hS.F ht⟩) hS.2.2 d_N_movement_111
          · refine lv_if_eq (tgt := 73) hx hb d_N_movement_43 (by decide) (fun _ => ?_) (fun q9 => absurd rfl q9)
            refine lv_iconst (v := 0) hx hb d_N_movement_73 (by decide) ?_
            refine lv_istore (lv' := [(7, .int 0), (0, .ref r), (1, .int a), (2, .int b), (3, .int d9), (4, .int s9), (5, .int n9), (6, .int v9)]) hx hb d_N_movement_74 hl (by decide) rfl (fun ls hl => ?_)
            refine lv_aload_n hx hb d_N_movement_76 rfl (lv_at hl 1 rfl) ?_
            refine lv_iload hx hb d_N_movement_77 (lv_at hl 0 rfl) ?_
            refine lv_if_ne (tgt := 86) hx hb d_N_movement_79 (by decide) (fun q9 => absurd rfl q9) (fun _ => ?_)
            refine lv_iconst (v := 1) hx hb d_N_movement_82 (by decide) ?_
            refine lv_goto (tgt := 100) hx hb d_N_movement_83 (by decide) ?_
            refine va_put (D := D) (ci := 3) (v := .int 1) (ty := .int) (C := R_N) (T := F_N) (N := 25) hx hb htw uw_N ft_N tk_N n_N hown hK hP hD hS 0 rfl rfl 0 (by decide) (htw _ k_N_74) (fun _ h9 => h9) rfl (by decide +kernel) rfl rfl (Nat.le_of_ble_eq_true rfl) d_N_movement_100 (fun H locs hP hD hS => ?_)
            have hP : va_P D cl_L (ws_N cI r rr ra 1 Sr (off, nm, ng, now, F, R)) H := hP
            have hD : va_D A (ws_N cI r rr ra 1 Sr (off, nm, ng, now, F, R)) := hD
            refine lv_aload_n hx hb d_N_movement_103 rfl (lv_at hl 1 rfl) ?_
            refine va_get (D := D) (C := R_N) (T := F_N) (N := 25) hx hb htw uw_N hown hK hP 0 rfl rfl 0 (by decide) (htw _ k_N_74) (fun _ h9 => h9) rfl d_N_movement_104 ?_
            refine lv_if_le (tgt := 112) hx hb d_N_movement_107 (by decide) (fun q9 => absurd q9 (by decide)) (fun _ => ?_)
            refine lv_iconst (v := 0) hx hb d_N_movement_110 (by decide) ?_
            subst hAe
            have e_S : sp_mv (off, nm, ng, now, F, R) a b d9 s9 n9 v9 = (1, 0, (off, nm, ng, now, F, R)) := by simp only [sp_mv]; rw [if_neg (fun q => b13 q.2.2.2.2.1)]
            exact W.iret (v := 0) hx hb hr (fun t ht hW => ⟨⟨_, Sr, rfl, ⟨fun _ => by rw [e_S], by rw [e_S]; exact hSr⟩, by rw [ht, e_S]; exact hP, by rw [e_S]; exact hD⟩, hS.F ht⟩) hS.2.2 d_N_movement_111
        · refine lv_if_eq (tgt := 73) hx hb d_N_movement_32 (by decide) (fun _ => ?_) (fun q9 => absurd rfl q9)
          refine lv_iconst (v := 0) hx hb d_N_movement_73 (by decide) ?_
          refine lv_istore (lv' := [(7, .int 0), (0, .ref r), (1, .int a), (2, .int b), (3, .int d9), (4, .int s9), (5, .int n9), (6, .int v9)]) hx hb d_N_movement_74 hl (by decide) rfl (fun ls hl => ?_)
          refine lv_aload_n hx hb d_N_movement_76 rfl (lv_at hl 1 rfl) ?_
          refine lv_iload hx hb d_N_movement_77 (lv_at hl 0 rfl) ?_
          refine lv_if_ne (tgt := 86) hx hb d_N_movement_79 (by decide) (fun q9 => absurd rfl q9) (fun _ => ?_)
          refine lv_iconst (v := 1) hx hb d_N_movement_82 (by decide) ?_
          refine lv_goto (tgt := 100) hx hb d_N_movement_83 (by decide) ?_
          refine va_put (D := D) (ci := 3) (v := .int 1) (ty := .int) (C := R_N) (T := F_N) (N := 25) hx hb htw uw_N ft_N tk_N n_N hown hK hP hD hS 0 rfl rfl 0 (by decide) (htw _ k_N_74) (fun _ h9 => h9) rfl (by decide +kernel) rfl rfl (Nat.le_of_ble_eq_true rfl) d_N_movement_100 (fun H locs hP hD hS => ?_)
          have hP : va_P D cl_L (ws_N cI r rr ra 1 Sr (off, nm, ng, now, F, R)) H := hP
          have hD : va_D A (ws_N cI r rr ra 1 Sr (off, nm, ng, now, F, R)) := hD
          refine lv_aload_n hx hb d_N_movement_103 rfl (lv_at hl 1 rfl) ?_
          refine va_get (D := D) (C := R_N) (T := F_N) (N := 25) hx hb htw uw_N hown hK hP 0 rfl rfl 0 (by decide) (htw _ k_N_74) (fun _ h9 => h9) rfl d_N_movement_104 ?_
          refine lv_if_le (tgt := 112) hx hb d_N_movement_107 (by decide) (fun q9 => absurd q9 (by decide)) (fun _ => ?_)
          refine lv_iconst (v := 0) hx hb d_N_movement_110 (by decide) ?_
          subst hAe
          have e_S : sp_mv (off, nm, ng, now, F, R) a b d9 s9 n9 v9 = (1, 0, (off, nm, ng, now, F, R)) := by simp only [sp_mv]; rw [if_neg (fun q => b10 q.2.2.2.1)]
          exact W.iret (v := 0) hx hb hr (fun t ht hW => ⟨⟨_, Sr, rfl, ⟨fun _ => by rw [e_S], by rw [e_S]; exact hSr⟩, by rw [ht, e_S]; exact hP, by rw [e_S]; exact hD⟩, hS.F ht⟩) hS.2.2 d_N_movement_111
    · refine lv_if_eq (tgt := 73) hx hb d_N_movement_13 (by decide) (fun _ => ?_) (fun q9 => absurd rfl q9)
      refine lv_iconst (v := 0) hx hb d_N_movement_73 (by decide) ?_
      refine lv_istore (lv' := [(7, .int 0), (0, .ref r), (1, .int a), (2, .int b), (3, .int d9), (4, .int s9), (5, .int n9), (6, .int v9)]) hx hb d_N_movement_74 hl (by decide) rfl (fun ls hl => ?_)
      refine lv_aload_n hx hb d_N_movement_76 rfl (lv_at hl 1 rfl) ?_
      refine lv_iload hx hb d_N_movement_77 (lv_at hl 0 rfl) ?_
      refine lv_if_ne (tgt := 86) hx hb d_N_movement_79 (by decide) (fun q9 => absurd rfl q9) (fun _ => ?_)
      refine lv_iconst (v := 1) hx hb d_N_movement_82 (by decide) ?_
      refine lv_goto (tgt := 100) hx hb d_N_movement_83 (by decide) ?_
      refine va_put (D := D) (ci := 3) (v := .int 1) (ty := .int) (C := R_N) (T := F_N) (N := 25) hx hb htw uw_N ft_N tk_N n_N hown hK hP hD hS 0 rfl rfl 0 (by decide) (htw _ k_N_74) (fun _ h9 => h9) rfl (by decide +kernel) rfl rfl (Nat.le_of_ble_eq_true rfl) d_N_movement_100 (fun H locs hP hD hS => ?_)
      have hP : va_P D cl_L (ws_N cI r rr ra 1 Sr (off, nm, ng, now, F, R)) H := hP
      have hD : va_D A (ws_N cI r rr ra 1 Sr (off, nm, ng, now, F, R)) := hD
      refine lv_aload_n hx hb d_N_movement_103 rfl (lv_at hl 1 rfl) ?_
      refine va_get (D := D) (C := R_N) (T := F_N) (N := 25) hx hb htw uw_N hown hK hP 0 rfl rfl 0 (by decide) (htw _ k_N_74) (fun _ h9 => h9) rfl d_N_movement_104 ?_
      refine lv_if_le (tgt := 112) hx hb d_N_movement_107 (by decide) (fun q9 => absurd q9 (by decide)) (fun _ => ?_)
      refine lv_iconst (v := 0) hx hb d_N_movement_110 (by decide) ?_
      subst hAe
      have e_S : sp_mv (off, nm, ng, now, F, R) a b d9 s9 n9 v9 = (1, 0, (off, nm, ng, now, F, R)) := by simp only [sp_mv]; rw [if_neg (fun q => b6 q.2.1)]
      exact W.iret (v := 0) hx hb hr (fun t ht hW => ⟨⟨_, Sr, rfl, ⟨fun _ => by rw [e_S], by rw [e_S]; exact hSr⟩, by rw [ht, e_S]; exact hP, by rw [e_S]; exact hD⟩, hS.F ht⟩) hS.2.2 d_N_movement_111
  · refine lv_if_eq (tgt := 73) hx hb d_N_movement_5 (by decide) (fun _ => ?_) (fun q9 => absurd rfl q9)
    refine lv_iconst (v := 0) hx hb d_N_movement_73 (by decide) ?_
    refine lv_istore (lv' := [(7, .int 0), (0, .ref r), (1, .int a), (2, .int b), (3, .int d9), (4, .int s9), (5, .int n9), (6, .int v9)]) hx hb d_N_movement_74 hl (by decide) rfl (fun ls hl => ?_)
    refine lv_aload_n hx hb d_N_movement_76 rfl (lv_at hl 1 rfl) ?_
    refine lv_iload hx hb d_N_movement_77 (lv_at hl 0 rfl) ?_
    refine lv_if_ne (tgt := 86) hx hb d_N_movement_79 (by decide) (fun q9 => absurd rfl q9) (fun _ => ?_)
    refine lv_iconst (v := 1) hx hb d_N_movement_82 (by decide) ?_
    refine lv_goto (tgt := 100) hx hb d_N_movement_83 (by decide) ?_
    refine va_put (D := D) (ci := 3) (v := .int 1) (ty := .int) (C := R_N) (T := F_N) (N := 25) hx hb htw uw_N ft_N tk_N n_N hown hK hP hD hS 0 rfl rfl 0 (by decide) (htw _ k_N_74) (fun _ h9 => h9) rfl (by decide +kernel) rfl rfl (Nat.le_of_ble_eq_true rfl) d_N_movement_100 (fun H locs hP hD hS => ?_)
    have hP : va_P D cl_L (ws_N cI r rr ra 1 Sr (off, nm, ng, now, F, R)) H := hP
    have hD : va_D A (ws_N cI r rr ra 1 Sr (off, nm, ng, now, F, R)) := hD
    refine lv_aload_n hx hb d_N_movement_103 rfl (lv_at hl 1 rfl) ?_
    refine va_get (D := D) (C := R_N) (T := F_N) (N := 25) hx hb htw uw_N hown hK hP 0 rfl rfl 0 (by decide) (htw _ k_N_74) (fun _ h9 => h9) rfl d_N_movement_104 ?_
    refine lv_if_le (tgt := 112) hx hb d_N_movement_107 (by decide) (fun q9 => absurd q9 (by decide)) (fun _ => ?_)
    refine lv_iconst (v := 0) hx hb d_N_movement_110 (by decide) ?_
    subst hAe
    have e_S : sp_mv (off, nm, ng, now, F, R) a b d9 s9 n9 v9 = (1, 0, (off, nm, ng, now, F, R)) := by simp only [sp_mv]; rw [if_neg (fun q => b3 q.1)]
    exact W.iret (v := 0) hx hb hr (fun t ht hW => ⟨⟨_, Sr, rfl, ⟨fun _ => by rw [e_S], by rw [e_S]; exact hSr⟩, by rw [ht, e_S]; exact hP, by rw [e_S]; exact hD⟩, hS.F ht⟩) hS.2.2 d_N_movement_111
set_option maxHeartbeats 4000000 in
set_option maxRecDepth 100000 in
theorem t_N_discharge (l : Launch) (D : va_G) (cM cG cI cJ : ClassId) (r rr : Nat) (ra : Nat → Nat) (th : Int32) (Sr : Nat → Int32) (off : Int32) (nm ng : Nat) (now : Int32) (F : Nat → Nat → Int32) (R : Nat → Int32) (sz : Nat) (x : Int32) (y : Int32) (t9 : Nat) (hI : iv_S t9 (off, nm, ng, now, F, R)) (hSr : sr_P Sr (off, nm, ng, now, F, R)) : Met l y_N_discharge (Cond.code y_N_discharge c_N_discharge 3 (some .int) :: tw_L) ({ frames := 1, cells := 0, slots := 0, locals := 21 } : Room) (mu_P D (ws_N cI r rr ra th Sr (off, nm, ng, now, F, R)) sz (fun _ _ => True) (yt_P D cM cG cI cJ) [.ref r, .int x, .int y]) (va_Qi (fun (v : Int32) (S1 : Nat → Int32) => ((sp_di (off, nm, ng, now, F, R) x y).1 = 0 → v = (sp_di (off, nm, ng, now, F, R) x y).2.1) ∧ sr_P S1 (sp_di (off, nm, ng, now, F, R) x y).2.2) (mu_B D (ws_N cI r rr ra th Sr (off, nm, ng, now, F, R)) sz (fun S1 => ws_N cI r rr ra (sp_di (off, nm, ng, now, F, R) x y).1 S1 (sp_di (off, nm, ng, now, F, R) x y).2.2)) (va_A (ws_N cI r rr ra th Sr (off, nm, ng, now, F, R)) sz)) 0 0 (va_A (ws_N cI r rr ra th Sr (off, nm, ng, now, F, R)) sz) := by
  refine Met.ofW (cc := c_N_discharge) (maxL := 3) (ret := (some .int)) (by decide) rfl ?_
  intro p e s m args below meth c s₁ B hml hv
  obtain ⟨rfl, hsz, hP, hD0, hX, hY⟩ := hv
  have hx := B.exec
  have hb := B.bytes
  have hr := B.returns
  have htw : ∀ w ∈ tw_L, w.before _ s = true := fun w hw => atoms_spec (ws := (Cond.code y_N_discharge c_N_discharge 3 (some .int) :: tw_L)) B.pre w (List.mem_cons_of_mem _ hw)
  have hown : s.vm.findClass R_N = some m.cls := findClass_of_methodNamed B.named
  have hlocks := B.notSynchronized
  have hC : CallFix p m c c_N_discharge 3 s _ tw_L R_N := ⟨hx, hb, hml, hown, htw⟩
  have hK := hY.1
  have hl := lv_entry ([.ref r, .int x, .int y]) (n := 3) (Nat.le_of_ble_eq_true rfl)
  rw [lg_entry_eq]
  generalize (lg_sl ([.ref r, .int x, .int y]) ++ List.replicate (3 - (lg_sl ([.ref r, .int x, .int y])).length) Slot.unset).toArray = ls at hl ⊢
  have hl : lv_has ls 3 [(0, .ref r), (1, .int x), (2, .int y)] := hl
  subst hsz
  obtain ⟨A, hAe⟩ : ∃ A : Nat → Prop, A = va_A (ws_N cI r rr ra th Sr (off, nm, ng, now, F, R)) s.heap.size := ⟨_, rfl⟩
  have hD : va_D A (ws_N cI r rr ra th Sr (off, nm, ng, now, F, R)) := by rw [hAe]; exact hD0.self
  have hA : ∀ q : Nat, s.heap.size ≤ q → A q := fun q h => by rw [hAe]; exact Or.inr h
  have hS : va_S A s.heap s.heap [] := va_S.rf
  obtain ⟨hof, hn20, hnow, ht4, hM, hZ, hG, hcn⟩ := id hI
  have hg200 : ng ≤ 200 := by have := cn_0 hM hcn; omega
  refine lv_aload_n hx hb d_N_discharge_0 rfl (lv_at hl 0 rfl) ?_
  refine lv_aload_n hx hb d_N_discharge_1 rfl (lv_at hl 0 rfl) ?_
  refine lv_iload_n hx hb d_N_discharge_2 rfl (lv_at hl 1 rfl) ?_
  refine cp_V (n := 1) [.int x] hC (t_N_isMovement l D cM cG cI cJ r rr ra th Sr off nm ng now F R x) ⟨kc_N_isMovement, kn_N, k_N_100, ki_N_isMovement, kv_N_isMovement⟩ (by decide +kernel) ⟨rfl, rfl, Nat.le_of_ble_eq_true rfl, Nat.le_of_ble_eq_true rfl⟩ x_0 (yt_Y D cM cG cI cJ) hY hP (va_recv hK hP (ci := 3) (q0 := 0) rfl rfl) rfl hl.1 rfl (Nat.le_of_ble_eq_true rfl) d_N_discharge_3 ⟨Nat.le_of_ble_eq_true rfl, Nat.le_of_ble_eq_true rfl⟩ (fun r1 h2 => ?_)
  rcases h2 with ⟨rfl, b3⟩ | ⟨rfl, b3⟩
  · obtain ⟨i, hi, rfl⟩ := ix_of (show nm < 2147483648 by omega) b3
    have hix := b3
    have hcl : (nI i).toNatClampNeg = i := nI_clamp (by omega)
    have hMi := hM i hi
    have hi20 : i < 20 := by omega
    refine lv_if_eq (tgt := 18) hx hb d_N_discharge_6 (by decide) (fun q9 => absurd q9 (by decide)) (fun _ => ?_)
    refine lv_iload_n hx hb d_N_discharge_9 rfl (lv_at hl 2 rfl) ?_
    refine lv_iconst (v := 1) hx hb d_N_discharge_10 (by decide) ?_
    refine lv_icmp_lt (tgt := 18) hx hb d_N_discharge_11 (by decide) (fun c4 => ?_) (fun c4 => ?_)
    · refine lv_iconst (v := 1) hx hb d_N_discharge_18 (by decide) ?_
      refine va_put (D := D) (ci := 3) (v := .int 1) (ty := .int) (C := R_N) (T := F_N) (N := 25) hx hb htw uw_N ft_N tk_N n_N hown hK hP hD hS 0 rfl rfl 0 (by decide) (htw _ k_N_74) (fun _ h9 => h9) rfl (by decide +kernel) rfl rfl (Nat.le_of_ble_eq_true rfl) d_N_discharge_19 (fun H locs hP hD hS => ?_)
      have hP : va_P D cl_L (ws_N cI r rr ra 1 Sr (off, nm, ng, now, F, R)) H := hP
      have hD : va_D A (ws_N cI r rr ra 1 Sr (off, nm, ng, now, F, R)) := hD
      refine lv_aload_n hx hb d_N_discharge_22 rfl (lv_at hl 0 rfl) ?_
      refine va_get (D := D) (C := R_N) (T := F_N) (N := 25) hx hb htw uw_N hown hK hP 0 rfl rfl 0 (by decide) (htw _ k_N_74) (fun _ h9 => h9) rfl d_N_discharge_23 ?_
      refine lv_if_le (tgt := 31) hx hb d_N_discharge_26 (by decide) (fun q9 => absurd q9 (by decide)) (fun _ => ?_)
      refine lv_iconst (v := 0) hx hb d_N_discharge_29 (by decide) ?_
      subst hAe
      have e_S : sp_di (off, nm, ng, now, F, R) (nI i) y = (1, 0, (off, nm, ng, now, F, R)) := by simp only [sp_di]; rw [if_neg (fun q => q.2 c4)]
      exact W.iret (v := 0) hx hb hr (fun t ht hW => ⟨⟨_, Sr, rfl, ⟨fun _ => by rw [e_S], by rw [e_S]; exact hSr⟩, by rw [ht, e_S]; exact hP, by rw [e_S]; exact hD⟩, hS.F ht⟩) hS.2.2 d_N_discharge_30
    · refine lv_iconst (v := 0) hx hb d_N_discharge_14 (by decide) ?_
      refine lv_goto (tgt := 19) hx hb d_N_discharge_15 (by decide) ?_
      refine va_put (D := D) (ci := 3) (v := .int 0) (ty := .int) (C := R_N) (T := F_N) (N := 25) hx hb htw uw_N ft_N tk_N n_N hown hK hP hD hS 0 rfl rfl 0 (by decide) (htw _ k_N_74) (fun _ h9 => h9) rfl (by decide +kernel) rfl rfl (Nat.le_of_ble_eq_true rfl) d_N_discharge_19 (fun H locs hP hD hS => ?_)
      have hP : va_P D cl_L (ws_N cI r rr ra 0 Sr (off, nm, ng, now, F, R)) H := hP
      have hD : va_D A (ws_N cI r rr ra 0 Sr (off, nm, ng, now, F, R)) := hD
      refine lv_aload_n hx hb d_N_discharge_22 rfl (lv_at hl 0 rfl) ?_
      refine va_get (D := D) (C := R_N) (T := F_N) (N := 25) hx hb htw uw_N hown hK hP 0 rfl rfl 0 (by decide) (htw _ k_N_74) (fun _ h9 => h9) rfl d_N_discharge_23 ?_
      refine lv_if_le (tgt := 31) hx hb d_N_discharge_26 (by decide) (fun _ => ?_) (fun q9 => (q9 (by decide)).elim)
      refine lv_aload_n hx hb d_N_discharge_31 rfl (lv_at hl 0 rfl) ?_
      refine va_get (D := D) (C := R_N) (T := F_N) (N := 25) hx hb htw uw_N hown hK hP 0 rfl rfl 15 (by decide) (htw _ k_N_40) (fun _ h9 => h9) rfl d_N_discharge_32 ?_
      refine lv_iload_n hx hb d_N_discharge_35 rfl (lv_at hl 1 rfl) ?_
      refine ar_ld hx hb hK hP 12 2 rfl rfl hi20 (by decide) d_N_discharge_36 ?_
      refine lv_iconst (v := 3) hx hb d_N_discharge_37 (by decide) ?_
      refine lv_icmp_ne (tgt := 58) hx hb d_N_discharge_38 (by decide) (fun c5 => ?_) (fun c5 => ?_)
      · refine lv_iconst (v := (-1)) hx hb d_N_discharge_58 (by decide) ?_
        subst hAe
        have e_S : sp_di (off, nm, ng, now, F, R) (nI i) y = (0, (-1), (off, nm, ng, now, F, R)) := by simp only [sp_di, hcl]; rw [if_pos ⟨hix, c4⟩, if_pos (Or.inl c5)]
        exact W.iret (v := (-1)) hx hb hr (fun t ht hW => ⟨⟨_, Sr, rfl, ⟨fun _ => by rw [e_S], by rw [e_S]; exact hSr⟩, by rw [ht, e_S]; exact hP, by rw [e_S]; exact hD⟩, hS.F ht⟩) hS.2.2 d_N_discharge_59
      · refine lv_iload_n hx hb d_N_discharge_41 rfl (lv_at hl 2 rfl) ?_
        refine lv_aload_n hx hb d_N_discharge_42 rfl (lv_at hl 0 rfl) ?_
        refine va_get (D := D) (C := R_N) (T := F_N) (N := 25) hx hb htw uw_N hown hK hP 0 rfl rfl 9 (by decide) (htw _ k_N_22) (fun _ h9 => h9) rfl d_N_discharge_43 ?_
        refine lv_iload_n hx hb d_N_discharge_46 rfl (lv_at hl 1 rfl) ?_
        refine ar_ld hx hb hK hP 6 2 rfl rfl hi20 (by decide) d_N_discharge_47 ?_
        refine lv_aload_n hx hb d_N_discharge_48 rfl (lv_at hl 0 rfl) ?_
        refine va_get (D := D) (C := R_N) (T := F_N) (N := 25) hx hb htw uw_N hown hK hP 0 rfl rfl 16 (by decide) (htw _ k_N_43) (fun _ h9 => h9) rfl d_N_discharge_49 ?_
        refine lv_iload_n hx hb d_N_discharge_52 rfl (lv_at hl 1 rfl) ?_
        refine ar_ld hx hb hK hP 13 2 rfl rfl hi20 (by decide) d_N_discharge_53 ?_
        refine lv_isub hx hb d_N_discharge_54 ?_
        refine lv_icmp_le (tgt := 60) hx hb d_N_discharge_55 (by decide) (fun c6 => ?_) (fun c6 => ?_)
        · refine lv_aload_n hx hb d_N_discharge_60 rfl (lv_at hl 0 rfl) ?_
          refine va_get (D := D) (C := R_N) (T := F_N) (N := 25) hx hb htw uw_N hown hK hP 0 rfl rfl 16 (by decide) (htw _ k_N_43) (fun _ h9 => h9) rfl d_N_discharge_61 ?_
          refine lv_iload_n hx hb d_N_discharge_64 rfl (lv_at hl 1 rfl) ?_
          refine lv_dup2_11 hx hb d_N_discharge_65 rfl rfl ?_
          refine ar_ld hx hb hK hP 13 2 rfl rfl hi20 (by decide) d_N_discharge_66 ?_
          refine lv_iload_n hx hb d_N_discharge_67 rfl (lv_at hl 2 rfl) ?_
          refine lv_iadd hx hb d_N_discharge_68 ?_
          refine ar_st hx hb hK hP hD hS 13 2 rfl rfl hi20 (by decide) d_N_discharge_69 (fun H locs hP hD hS => ?_)
          have hP : va_P D cl_L (ws_N cI r rr ra 0 Sr (off, nm, ng, now, up_F F 11 i ((F 11 i) + y), R)) H := hP
          have hD : va_D A (ws_N cI r rr ra 0 Sr (off, nm, ng, now, up_F F 11 i ((F 11 i) + y), R)) := hD
          refine lv_aload_n hx hb d_N_discharge_70 rfl (lv_at hl 0 rfl) ?_
          refine va_get (D := D) (C := R_N) (T := F_N) (N := 25) hx hb htw uw_N hown hK hP 0 rfl rfl 15 (by decide) (htw _ k_N_40) (fun _ h9 => h9) rfl d_N_discharge_71 ?_
          refine lv_iload_n hx hb d_N_discharge_74 rfl (lv_at hl 1 rfl) ?_
          refine lv_aload_n hx hb d_N_discharge_75 rfl (lv_at hl 0 rfl) ?_
          refine va_get (D := D) (C := R_N) (T := F_N) (N := 25) hx hb htw uw_N hown hK hP 0 rfl rfl 16 (by decide) (htw _ k_N_43) (fun _ h9 => h9) rfl d_N_discharge_76 ?_
          refine lv_iload_n hx hb d_N_discharge_79 rfl (lv_at hl 1 rfl) ?_
          refine ar_ld hx hb hK hP 13 2 rfl rfl hi20 (by decide) d_N_discharge_80 ?_
          refine sk_as (y := ((F 11 i) + y)) (by simp [up_at]) ?_
          refine lv_aload_n hx hb d_N_discharge_81 rfl (lv_at hl 0 rfl) ?_
          refine va_get (D := D) (C := R_N) (T := F_N) (N := 25) hx hb htw uw_N hown hK hP 0 rfl rfl 9 (by decide) (htw _ k_N_22) (fun _ h9 => h9) rfl d_N_discharge_82 ?_
          refine lv_iload_n hx hb d_N_discharge_85 rfl (lv_at hl 1 rfl) ?_
          refine ar_ld hx hb hK hP 6 2 rfl rfl hi20 (by decide) d_N_discharge_86 ?_
          refine lv_icmp_ne (tgt := 95) hx hb d_N_discharge_87 (by decide) (fun c7 => ?_) (fun c7 => ?_)
          · refine lv_iconst (v := 3) hx hb d_N_discharge_95 (by decide) ?_
            refine ar_st hx hb hK hP hD hS 12 2 rfl rfl hi20 (by decide) d_N_discharge_96 (fun H locs hP hD hS => ?_)
            have hP : va_P D cl_L (ws_N cI r rr ra 0 Sr (off, nm, ng, now, up_F (up_F F 11 i ((F 11 i) + y)) 10 i 3, R)) H := hP
            have hD : va_D A (ws_N cI r rr ra 0 Sr (off, nm, ng, now, up_F (up_F F 11 i ((F 11 i) + y)) 10 i 3, R)) := hD
            refine lv_aload_n hx hb d_N_discharge_97 rfl (lv_at hl 0 rfl) ?_
            refine va_get (D := D) (C := R_N) (T := F_N) (N := 25) hx hb htw uw_N hown hK hP 0 rfl rfl 9 (by decide) (htw _ k_N_22) (fun _ h9 => h9) rfl d_N_discharge_98 ?_
            refine lv_iload_n hx hb d_N_discharge_101 rfl (lv_at hl 1 rfl) ?_
            refine ar_ld hx hb hK hP 6 2 rfl rfl hi20 (by decide) d_N_discharge_102 ?_
            refine lv_aload_n hx hb d_N_discharge_103 rfl (lv_at hl 0 rfl) ?_
            refine va_get (D := D) (C := R_N) (T := F_N) (N := 25) hx hb htw uw_N hown hK hP 0 rfl rfl 16 (by decide) (htw _ k_N_43) (fun _ h9 => h9) rfl d_N_discharge_104 ?_
            refine lv_iload_n hx hb d_N_discharge_107 rfl (lv_at hl 1 rfl) ?_
            refine ar_ld hx hb hK hP 13 2 rfl rfl hi20 (by decide) d_N_discharge_108 ?_
            refine sk_as (y := ((F 11 i) + y)) (by simp [up_at]) ?_
            refine lv_isub hx hb d_N_discharge_109 ?_
            subst hAe
            have e_S : sp_di (off, nm, ng, now, F, R) (nI i) y = (0, ((F 4 i) - ((F 11 i) + y)), (off, nm, ng, now, up_F (up_F F 11 i ((F 11 i) + y)) 10 i 3, R)) := by simp only [sp_di, hcl]; rw [if_pos ⟨hix, c4⟩, if_neg (fun q => q.elim (fun z => z c5) (fun z => Int32.not_lt.mpr c6 z)), if_neg (fun q => c7 (show F 11 i + y = F 4 i from d_0.mp q)), up_id (show (up_F F 11 i (F 11 i + y)) 10 i = 3 from c5)]
            exact W.iret (v := ((F 4 i) - ((F 11 i) + y))) hx hb hr (fun t ht hW => ⟨⟨_, Sr, rfl, ⟨fun _ => by rw [e_S], by rw [e_S]; exact hSr⟩, by rw [ht, e_S]; exact hP, by rw [e_S]; exact hD⟩, hS.F ht⟩) hS.2.2 d_N_discharge_110
          · refine lv_bipush (v := 6) hx hb d_N_discharge_90 (by decide) ?_
            refine lv_goto (tgt := 96) hx hb d_N_discharge_92 (by decide) ?_
            refine ar_st hx hb hK hP hD hS 12 2 rfl rfl hi20 (by decide) d_N_discharge_96 (fun H locs hP hD hS => ?_)
            have hP : va_P D cl_L (ws_N cI r rr ra 0 Sr (off, nm, ng, now, up_F (up_F F 11 i ((F 11 i) + y)) 10 i 6, R)) H := hP
            have hD : va_D A (ws_N cI r rr ra 0 Sr (off, nm, ng, now, up_F (up_F F 11 i ((F 11 i) + y)) 10 i 6, R)) := hD
            refine lv_aload_n hx hb d_N_discharge_97 rfl (lv_at hl 0 rfl) ?_
            refine va_get (D := D) (C := R_N) (T := F_N) (N := 25) hx hb htw uw_N hown hK hP 0 rfl rfl 9 (by decide) (htw _ k_N_22) (fun _ h9 => h9) rfl d_N_discharge_98 ?_
            refine lv_iload_n hx hb d_N_discharge_101 rfl (lv_at hl 1 rfl) ?_
            refine ar_ld hx hb hK hP 6 2 rfl rfl hi20 (by decide) d_N_discharge_102 ?_
            refine lv_aload_n hx hb d_N_discharge_103 rfl (lv_at hl 0 rfl) ?_
            refine va_get (D := D) (C := R_N) (T := F_N) (N := 25) hx hb htw uw_N hown hK hP 0 rfl rfl 16 (by decide) (htw _ k_N_43) (fun _ h9 => h9) rfl d_N_discharge_104 ?_
            refine lv_iload_n hx hb d_N_discharge_107 rfl (lv_at hl 1 rfl) ?_
            refine ar_ld hx hb hK hP 13 2 rfl rfl hi20 (by decide) d_N_discharge_108 ?_
            refine sk_as (y := ((F 11 i) + y)) (by simp [up_at]) ?_
            refine lv_isub hx hb d_N_discharge_109 ?_
            subst hAe
            have e_S : sp_di (off, nm, ng, now, F, R) (nI i) y = (0, ((F 4 i) - ((F 11 i) + y)), (off, nm, ng, now, up_F (up_F F 11 i ((F 11 i) + y)) 10 i 6, R)) := by simp only [sp_di, hcl]; rw [if_pos ⟨hix, c4⟩, if_neg (fun q => q.elim (fun z => z c5) (fun z => Int32.not_lt.mpr c6 z)), if_pos (d_0.mpr (show F 11 i + y = F 4 i from c7))]
            exact W.iret (v := ((F 4 i) - ((F 11 i) + y))) hx hb hr (fun t ht hW => ⟨⟨_, Sr, rfl, ⟨fun _ => by rw [e_S], by rw [e_S]; exact hSr⟩, by rw [ht, e_S]; exact hP, by rw [e_S]; exact hD⟩, hS.F ht⟩) hS.2.2 d_N_discharge_110
        · refine lv_iconst (v := (-1)) hx hb d_N_discharge_58 (by decide) ?_
          subst hAe
          have e_S : sp_di (off, nm, ng, now, F, R) (nI i) y = (0, (-1), (off, nm, ng, now, F, R)) := by simp only [sp_di, hcl]; rw [if_pos ⟨hix, c4⟩, if_pos (Or.inr (Int32.not_le.mp c6))]
          exact W.iret (v := (-1)) hx hb hr (fun t ht hW => ⟨⟨_, Sr, rfl, ⟨fun _ => by rw [e_S], by rw [e_S]; exact hSr⟩, by rw [ht, e_S]; exact hP, by rw [e_S]; exact hD⟩, hS.F ht⟩) hS.2.2 d_N_discharge_59
  · refine lv_if_eq (tgt := 18) hx hb d_N_discharge_6 (by decide) (fun _ => ?_) (fun q9 => absurd rfl q9)
    refine lv_iconst (v := 1) hx hb d_N_discharge_18 (by decide) ?_
    refine va_put (D := D) (ci := 3) (v := .int 1) (ty := .int) (C := R_N) (T := F_N) (N := 25) hx hb htw uw_N ft_N tk_N n_N hown hK hP hD hS 0 rfl rfl 0 (by decide) (htw _ k_N_74) (fun _ h9 => h9) rfl (by decide +kernel) rfl rfl (Nat.le_of_ble_eq_true rfl) d_N_discharge_19 (fun H locs hP hD hS => ?_)
    have hP : va_P D cl_L (ws_N cI r rr ra 1 Sr (off, nm, ng, now, F, R)) H := hP
    have hD : va_D A (ws_N cI r rr ra 1 Sr (off, nm, ng, now, F, R)) := hD
    refine lv_aload_n hx hb d_N_discharge_22 rfl (lv_at hl 0 rfl) ?_
    refine va_get (D := D) (C := R_N) (T := F_N) (N := 25) hx hb htw uw_N hown hK hP 0 rfl rfl 0 (by decide) (htw _ k_N_74) (fun _ h9 => h9) rfl d_N_discharge_23 ?_
    refine lv_if_le (tgt := 31) hx hb d_N_discharge_26 (by decide) (fun q9 => absurd q9 (by decide)) (fun _ => ?_)
    refine lv_iconst (v := 0) hx hb d_N_discharge_29 (by decide) ?_
    subst hAe
    have e_S : sp_di (off, nm, ng, now, F, R) x y = (1, 0, (off, nm, ng, now, F, R)) := by simp only [sp_di]; rw [if_neg (fun q => b3 q.1)]
    exact W.iret (v := 0) hx hb hr (fun t ht hW => ⟨⟨_, Sr, rfl, ⟨fun _ => by rw [e_S], by rw [e_S]; exact hSr⟩, by rw [ht, e_S]; exact hP, by rw [e_S]; exact hD⟩, hS.F ht⟩) hS.2.2 d_N_discharge_30
set_option maxHeartbeats 4000000 in
set_option maxRecDepth 100000 in
theorem t_N_proof (l : Launch) (D : va_G) (cM cG cI cJ : ClassId) (r rr : Nat) (ra : Nat → Nat) (th : Int32) (Sr : Nat → Int32) (off : Int32) (nm ng : Nat) (now : Int32) (F : Nat → Nat → Int32) (R : Nat → Int32) (sz : Nat) (x : Int32) (t9 : Nat) (hI : iv_S t9 (off, nm, ng, now, F, R)) (hSr : sr_P Sr (off, nm, ng, now, F, R)) : Met l y_N_proof (Cond.code y_N_proof c_N_proof 3 (some .int) :: tw_L) ({ frames := 1, cells := 0, slots := 0, locals := 21 } : Room) (mu_P D (ws_N cI r rr ra th Sr (off, nm, ng, now, F, R)) sz (fun _ _ => True) (yt_P D cM cG cI cJ) [.ref r, .int x]) (va_Qi (fun (v : Int32) (S1 : Nat → Int32) => ((sp_pr (off, nm, ng, now, F, R) x).1 = 0 → v = (sp_pr (off, nm, ng, now, F, R) x).2.1) ∧ sr_P S1 (sp_pr (off, nm, ng, now, F, R) x).2.2) (mu_B D (ws_N cI r rr ra th Sr (off, nm, ng, now, F, R)) sz (fun S1 => ws_N cI r rr ra (sp_pr (off, nm, ng, now, F, R) x).1 S1 (sp_pr (off, nm, ng, now, F, R) x).2.2)) (va_A (ws_N cI r rr ra th Sr (off, nm, ng, now, F, R)) sz)) 0 0 (va_A (ws_N cI r rr ra th Sr (off, nm, ng, now, F, R)) sz) := by
  refine Met.ofW (cc := c_N_proof) (maxL := 3) (ret := (some .int)) (by decide) rfl ?_
  intro p e s m args below meth c s₁ B hml hv
  obtain ⟨rfl, hsz, hP, hD0, hX, hY⟩ := hv
  have hx := B.exec
  have hb := B.bytes
  have hr := B.returns
  have htw : ∀ w ∈ tw_L, w.before _ s = true := fun w hw => atoms_spec (ws := (Cond.code y_N_proof c_N_proof 3 (some .int) :: tw_L)) B.pre w (List.mem_cons_of_mem _ hw)
  have hown : s.vm.findClass R_N = some m.cls := findClass_of_methodNamed B.named
  have hlocks := B.notSynchronized
  have hC : CallFix p m c c_N_proof 3 s _ tw_L R_N := ⟨hx, hb, hml, hown, htw⟩
  have hK := hY.1
  have hl := lv_entry ([.ref r, .int x]) (n := 3) (Nat.le_of_ble_eq_true rfl)
  rw [lg_entry_eq]
  generalize (lg_sl ([.ref r, .int x]) ++ List.replicate (3 - (lg_sl ([.ref r, .int x])).length) Slot.unset).toArray = ls at hl ⊢
  have hl : lv_has ls 3 [(0, .ref r), (1, .int x)] := hl
  subst hsz
  obtain ⟨A, hAe⟩ : ∃ A : Nat → Prop, A = va_A (ws_N cI r rr ra th Sr (off, nm, ng, now, F, R)) s.heap.size := ⟨_, rfl⟩
  have hD : va_D A (ws_N cI r rr ra th Sr (off, nm, ng, now, F, R)) := by rw [hAe]; exact hD0.self
  have hA : ∀ q : Nat, s.heap.size ≤ q → A q := fun q h => by rw [hAe]; exact Or.inr h
  have hS : va_S A s.heap s.heap [] := va_S.rf
  obtain ⟨hof, hn20, hnow, ht4, hM, hZ, hG, hcn⟩ := id hI
  have hg200 : ng ≤ 200 := by have := cn_0 hM hcn; omega
  have hnw : 0 ≤ now.toInt ∧ now.toInt ≤ 10000 := by rw [hnow, i_nI (by omega)]; omega
  refine lv_aload_n hx hb d_N_proof_0 rfl (lv_at hl 0 rfl) ?_
  refine lv_aload_n hx hb d_N_proof_1 rfl (lv_at hl 0 rfl) ?_
  refine lv_iload_n hx hb d_N_proof_2 rfl (lv_at hl 1 rfl) ?_
  refine cp_V (n := 1) [.int x] hC (t_N_isMovement l D cM cG cI cJ r rr ra th Sr off nm ng now F R x) ⟨kc_N_isMovement, kn_N, k_N_100, ki_N_isMovement, kv_N_isMovement⟩ (by decide +kernel) ⟨rfl, rfl, Nat.le_of_ble_eq_true rfl, Nat.le_of_ble_eq_true rfl⟩ x_0 (yt_Y D cM cG cI cJ) hY hP (va_recv hK hP (ci := 3) (q0 := 0) rfl rfl) rfl hl.1 rfl (Nat.le_of_ble_eq_true rfl) d_N_proof_3 ⟨Nat.le_of_ble_eq_true rfl, Nat.le_of_ble_eq_true rfl⟩ (fun r1 h2 => ?_)
  rcases h2 with ⟨rfl, b3⟩ | ⟨rfl, b3⟩
  · obtain ⟨i, hi, rfl⟩ := ix_of (show nm < 2147483648 by omega) b3
    have hix := b3
    have hcl : (nI i).toNatClampNeg = i := nI_clamp (by omega)
    have hMi := hM i hi
    have hi20 : i < 20 := by omega
    refine lv_if_eq (tgt := 13) hx hb d_N_proof_6 (by decide) (fun q9 => absurd q9 (by decide)) (fun _ => ?_)
    refine lv_iconst (v := 0) hx hb d_N_proof_9 (by decide) ?_
    refine lv_goto (tgt := 14) hx hb d_N_proof_10 (by decide) ?_
    refine va_put (D := D) (ci := 3) (v := .int 0) (ty := .int) (C := R_N) (T := F_N) (N := 25) hx hb htw uw_N ft_N tk_N n_N hown hK hP hD hS 0 rfl rfl 0 (by decide) (htw _ k_N_74) (fun _ h9 => h9) rfl (by decide +kernel) rfl rfl (Nat.le_of_ble_eq_true rfl) d_N_proof_14 (fun H locs hP hD hS => ?_)
    have hP : va_P D cl_L (ws_N cI r rr ra 0 Sr (off, nm, ng, now, F, R)) H := hP
    have hD : va_D A (ws_N cI r rr ra 0 Sr (off, nm, ng, now, F, R)) := hD
    refine lv_aload_n hx hb d_N_proof_17 rfl (lv_at hl 0 rfl) ?_
    refine va_get (D := D) (C := R_N) (T := F_N) (N := 25) hx hb htw uw_N hown hK hP 0 rfl rfl 0 (by decide) (htw _ k_N_74) (fun _ h9 => h9) rfl d_N_proof_18 ?_
    refine lv_if_gt (tgt := 35) hx hb d_N_proof_21 (by decide) (fun q9 => absurd q9 (by decide)) (fun _ => ?_)
    refine lv_aload_n hx hb d_N_proof_24 rfl (lv_at hl 0 rfl) ?_
    refine va_get (D := D) (C := R_N) (T := F_N) (N := 25) hx hb htw uw_N hown hK hP 0 rfl rfl 15 (by decide) (htw _ k_N_40) (fun _ h9 => h9) rfl d_N_proof_25 ?_
    refine lv_iload_n hx hb d_N_proof_28 rfl (lv_at hl 1 rfl) ?_
    refine ar_ld hx hb hK hP 12 2 rfl rfl hi20 (by decide) d_N_proof_29 ?_
    refine lv_bipush (v := 6) hx hb d_N_proof_30 (by decide) ?_
    refine lv_icmp_ne (tgt := 37) hx hb d_N_proof_32 (by decide) (fun c4 => ?_) (fun c4 => ?_)
    · refine lv_aload_n hx hb d_N_proof_37 rfl (lv_at hl 0 rfl) ?_
      refine va_get (D := D) (C := R_N) (T := F_N) (N := 25) hx hb htw uw_N hown hK hP 0 rfl rfl 15 (by decide) (htw _ k_N_40) (fun _ h9 => h9) rfl d_N_proof_38 ?_
      refine lv_iload_n hx hb d_N_proof_41 rfl (lv_at hl 1 rfl) ?_
      refine ar_ld hx hb hK hP 12 2 rfl rfl hi20 (by decide) d_N_proof_42 ?_
      refine lv_istore_n (lv' := [(2, .int (F 10 i)), (0, .ref r), (1, .int (nI i))]) hx hb d_N_proof_43 rfl hl (by decide) rfl (fun ls hl => ?_)
      refine lv_iload_n hx hb d_N_proof_44 rfl (lv_at hl 0 rfl) ?_
      refine lv_iconst (v := 5) hx hb d_N_proof_45 (by decide) ?_
      refine lv_icmp_ne (tgt := 67) hx hb d_N_proof_46 (by decide) (fun c5 => ?_) (fun c5 => ?_)
      · refine lv_aload_n hx hb d_N_proof_67 rfl (lv_at hl 1 rfl) ?_
        refine va_get (D := D) (C := R_N) (T := F_N) (N := 25) hx hb htw uw_N hown hK hP 0 rfl rfl 15 (by decide) (htw _ k_N_40) (fun _ h9 => h9) rfl d_N_proof_68 ?_
        refine lv_iload_n hx hb d_N_proof_71 rfl (lv_at hl 2 rfl) ?_
        refine lv_bipush (v := 6) hx hb d_N_proof_72 (by decide) ?_
        refine ar_st hx hb hK hP hD hS 12 2 rfl rfl hi20 (by decide) d_N_proof_74 (fun H locs hP hD hS => ?_)
        have hP : va_P D cl_L (ws_N cI r rr ra 0 Sr (off, nm, ng, now, up_F F 10 i 6, R)) H := hP
        have hD : va_D A (ws_N cI r rr ra 0 Sr (off, nm, ng, now, up_F F 10 i 6, R)) := hD
        refine lv_aload_n hx hb d_N_proof_75 rfl (lv_at hl 1 rfl) ?_
        refine va_get (D := D) (C := R_N) (T := F_N) (N := 25) hx hb htw uw_N hown hK hP 0 rfl rfl 17 (by decide) (htw _ k_N_46) (fun _ h9 => h9) rfl d_N_proof_76 ?_
        refine lv_iload_n hx hb d_N_proof_79 rfl (lv_at hl 2 rfl) ?_
        refine lv_iconst (v := 0) hx hb d_N_proof_80 (by decide) ?_
        refine ar_st hx hb hK hP hD hS 14 2 rfl rfl hi20 (by decide) d_N_proof_81 (fun H locs hP hD hS => ?_)
        have hP : va_P D cl_L (ws_N cI r rr ra 0 Sr (off, nm, ng, now, up_F (up_F F 10 i 6) 12 i 0, R)) H := hP
        have hD : va_D A (ws_N cI r rr ra 0 Sr (off, nm, ng, now, up_F (up_F F 10 i 6) 12 i 0, R)) := hD
        refine lv_iload_n hx hb d_N_proof_82 rfl (lv_at hl 0 rfl) ?_
        refine lv_iconst (v := 5) hx hb d_N_proof_83 (by decide) ?_
        refine lv_icmp_ne (tgt := 91) hx hb d_N_proof_84 (by decide) (fun _ => ?_) (fun c6 => absurd c6 c5)
        refine lv_iconst (v := 1) hx hb d_N_proof_91 (by decide) ?_
        subst hAe
        have e_S : sp_pr (off, nm, ng, now, F, R) (nI i) = (0, 1, (off, nm, ng, now, up_F (up_F F 10 i 6) 12 i 0, R)) := by simp only [sp_pr, hcl]; rw [if_pos hix, if_pos (fun q => q.elim c5 c4), up_id (show (up_F F 10 i 6) 12 i = 0 from i_eq.mpr (hMi.2.2.2.2.2.2.2.2.2.2.2.1 (fun q => c5 (i_eq.mpr q))))]
        exact W.iret (v := 1) hx hb hr (fun t ht hW => ⟨⟨_, Sr, rfl, ⟨fun _ => by rw [e_S], by rw [e_S]; exact hSr⟩, by rw [ht, e_S]; exact hP, by rw [e_S]; exact hD⟩, hS.F ht⟩) hS.2.2 d_N_proof_92
      · refine lv_aload_n hx hb d_N_proof_49 rfl (lv_at hl 1 rfl) ?_
        refine va_get (D := D) (C := R_N) (T := F_N) (N := 25) hx hb htw uw_N hown hK hP 0 rfl rfl 4 (by decide) (htw _ k_N_87) (fun _ h9 => h9) rfl d_N_proof_50 ?_
        refine lv_aload_n hx hb d_N_proof_53 rfl (lv_at hl 1 rfl) ?_
        refine va_get (D := D) (C := R_N) (T := F_N) (N := 25) hx hb htw uw_N hown hK hP 0 rfl rfl 7 (by decide) (htw _ k_N_16) (fun _ h9 => h9) rfl d_N_proof_54 ?_
        refine lv_iload_n hx hb d_N_proof_57 rfl (lv_at hl 2 rfl) ?_
        refine ar_ld hx hb hK hP 4 2 rfl rfl hi20 (by decide) d_N_proof_58 ?_
        refine lv_isub hx hb d_N_proof_59 ?_
        refine lv_bipush (v := 70) hx hb d_N_proof_60 (by decide) ?_
        refine lv_icmp_le (tgt := 67) hx hb d_N_proof_62 (by decide) (fun c7 => ?_) (fun c7 => ?_)
        · refine lv_aload_n hx hb d_N_proof_67 rfl (lv_at hl 1 rfl) ?_
          refine va_get (D := D) (C := R_N) (T := F_N) (N := 25) hx hb htw uw_N hown hK hP 0 rfl rfl 15 (by decide) (htw _ k_N_40) (fun _ h9 => h9) rfl d_N_proof_68 ?_
          refine lv_iload_n hx hb d_N_proof_71 rfl (lv_at hl 2 rfl) ?_
          refine lv_bipush (v := 6) hx hb d_N_proof_72 (by decide) ?_
          refine ar_st hx hb hK hP hD hS 12 2 rfl rfl hi20 (by decide) d_N_proof_74 (fun H locs hP hD hS => ?_)
          have hP : va_P D cl_L (ws_N cI r rr ra 0 Sr (off, nm, ng, now, up_F F 10 i 6, R)) H := hP
          have hD : va_D A (ws_N cI r rr ra 0 Sr (off, nm, ng, now, up_F F 10 i 6, R)) := hD
          refine lv_aload_n hx hb d_N_proof_75 rfl (lv_at hl 1 rfl) ?_
          refine va_get (D := D) (C := R_N) (T := F_N) (N := 25) hx hb htw uw_N hown hK hP 0 rfl rfl 17 (by decide) (htw _ k_N_46) (fun _ h9 => h9) rfl d_N_proof_76 ?_
          refine lv_iload_n hx hb d_N_proof_79 rfl (lv_at hl 2 rfl) ?_
          refine lv_iconst (v := 0) hx hb d_N_proof_80 (by decide) ?_
          refine ar_st hx hb hK hP hD hS 14 2 rfl rfl hi20 (by decide) d_N_proof_81 (fun H locs hP hD hS => ?_)
          have hP : va_P D cl_L (ws_N cI r rr ra 0 Sr (off, nm, ng, now, up_F (up_F F 10 i 6) 12 i 0, R)) H := hP
          have hD : va_D A (ws_N cI r rr ra 0 Sr (off, nm, ng, now, up_F (up_F F 10 i 6) 12 i 0, R)) := hD
          refine lv_iload_n hx hb d_N_proof_82 rfl (lv_at hl 0 rfl) ?_
          refine lv_iconst (v := 5) hx hb d_N_proof_83 (by decide) ?_
          refine lv_icmp_ne (tgt := 91) hx hb d_N_proof_84 (by decide) (fun c8 => absurd c5 c8) (fun _ => ?_)
          refine lv_iconst (v := 2) hx hb d_N_proof_87 (by decide) ?_
          refine lv_goto (tgt := 92) hx hb d_N_proof_88 (by decide) ?_
          subst hAe
          have e_S : sp_pr (off, nm, ng, now, F, R) (nI i) = (0, 2, (off, nm, ng, now, up_F (up_F F 10 i 6) 12 i 0, R)) := by simp only [sp_pr, hcl]; rw [if_pos hix, if_neg (fun z => z (Or.inl c5)), if_pos ⟨c5, (pr_70 hnw hMi.2.2.1).mp c7⟩]
          exact W.iret (v := 2) hx hb hr (fun t ht hW => ⟨⟨_, Sr, rfl, ⟨fun _ => by rw [e_S], by rw [e_S]; exact hSr⟩, by rw [ht, e_S]; exact hP, by rw [e_S]; exact hD⟩, hS.F ht⟩) hS.2.2 d_N_proof_92
        · refine lv_iconst (v := 0) hx hb d_N_proof_65 (by decide) ?_
          subst hAe
          have e_S : sp_pr (off, nm, ng, now, F, R) (nI i) = (0, 0, (off, nm, ng, now, F, R)) := by simp only [sp_pr, hcl]; rw [if_pos hix, if_neg (fun z => z (Or.inl c5)), if_neg (fun q => c7 ((pr_70 hnw hMi.2.2.1).mpr q.2))]
          exact W.iret (v := 0) hx hb hr (fun t ht hW => ⟨⟨_, Sr, rfl, ⟨fun _ => by rw [e_S], by rw [e_S]; exact hSr⟩, by rw [ht, e_S]; exact hP, by rw [e_S]; exact hD⟩, hS.F ht⟩) hS.2.2 d_N_proof_66
    · refine lv_iconst (v := 0) hx hb d_N_proof_35 (by decide) ?_
      subst hAe
      have e_S : sp_pr (off, nm, ng, now, F, R) (nI i) = (0, 0, (off, nm, ng, now, F, R)) := by simp only [sp_pr, hcl]; rw [if_pos hix, if_neg (fun z => z (Or.inr c4)), if_neg (fun q => absurd q.1 (by rw [c4]; decide))]
      exact W.iret (v := 0) hx hb hr (fun t ht hW => ⟨⟨_, Sr, rfl, ⟨fun _ => by rw [e_S], by rw [e_S]; exact hSr⟩, by rw [ht, e_S]; exact hP, by rw [e_S]; exact hD⟩, hS.F ht⟩) hS.2.2 d_N_proof_36
  · refine lv_if_eq (tgt := 13) hx hb d_N_proof_6 (by decide) (fun _ => ?_) (fun q9 => absurd rfl q9)
    refine lv_iconst (v := 1) hx hb d_N_proof_13 (by decide) ?_
    refine va_put (D := D) (ci := 3) (v := .int 1) (ty := .int) (C := R_N) (T := F_N) (N := 25) hx hb htw uw_N ft_N tk_N n_N hown hK hP hD hS 0 rfl rfl 0 (by decide) (htw _ k_N_74) (fun _ h9 => h9) rfl (by decide +kernel) rfl rfl (Nat.le_of_ble_eq_true rfl) d_N_proof_14 (fun H locs hP hD hS => ?_)
    have hP : va_P D cl_L (ws_N cI r rr ra 1 Sr (off, nm, ng, now, F, R)) H := hP
    have hD : va_D A (ws_N cI r rr ra 1 Sr (off, nm, ng, now, F, R)) := hD
    refine lv_aload_n hx hb d_N_proof_17 rfl (lv_at hl 0 rfl) ?_
    refine va_get (D := D) (C := R_N) (T := F_N) (N := 25) hx hb htw uw_N hown hK hP 0 rfl rfl 0 (by decide) (htw _ k_N_74) (fun _ h9 => h9) rfl d_N_proof_18 ?_
    refine lv_if_gt (tgt := 35) hx hb d_N_proof_21 (by decide) (fun _ => ?_) (fun q9 => (q9 (by decide)).elim)
    refine lv_iconst (v := 0) hx hb d_N_proof_35 (by decide) ?_
    subst hAe
    have e_S : sp_pr (off, nm, ng, now, F, R) x = (1, 0, (off, nm, ng, now, F, R)) := by simp only [sp_pr]; rw [if_neg b3]
    exact W.iret (v := 0) hx hb hr (fun t ht hW => ⟨⟨_, Sr, rfl, ⟨fun _ => by rw [e_S], by rw [e_S]; exact hSr⟩, by rw [ht, e_S]; exact hP, by rw [e_S]; exact hD⟩, hS.F ht⟩) hS.2.2 d_N_proof_36
set_option maxHeartbeats 4000000 in
set_option maxRecDepth 100000 in
theorem t_N_state (l : Launch) (D : va_G) (cM cG cI cJ : ClassId) (r rr : Nat) (ra : Nat → Nat) (th : Int32) (Sr : Nat → Int32) (off : Int32) (nm ng : Nat) (now : Int32) (F : Nat → Nat → Int32) (R : Nat → Int32) (sz : Nat) (x : Int32) (y : Int32) (t9 : Nat) (hI : iv_S t9 (off, nm, ng, now, F, R)) (hSr : sr_P Sr (off, nm, ng, now, F, R)) : Met l y_N_state (Cond.code y_N_state c_N_state 3 (some .int) :: tw_L) ({ frames := 1, cells := 0, slots := 0, locals := 22 } : Room) (mu_P D (ws_N cI r rr ra th Sr (off, nm, ng, now, F, R)) sz (fun _ _ => True) (yt_P D cM cG cI cJ) [.ref r, .int x, .int y]) (va_Qi (fun (v : Int32) (_ : Unit) => (sp_st (off, nm, ng, now, F, R) x y).1 = 0 → v = (sp_st (off, nm, ng, now, F, R) x y).2) (mu_B D (ws_N cI r rr ra th Sr (off, nm, ng, now, F, R)) sz (fun _ => ws_N cI r rr ra (sp_st (off, nm, ng, now, F, R) x y).1 Sr (off, nm, ng, now, F, R))) (va_A (ws_N cI r rr ra th Sr (off, nm, ng, now, F, R)) sz)) 0 0 (va_A (ws_N cI r rr ra th Sr (off, nm, ng, now, F, R)) sz) := by
  refine Met.ofW (cc := c_N_state) (maxL := 3) (ret := (some .int)) (by decide) rfl ?_
  intro p e s m args below meth c s₁ B hml hv
  obtain ⟨rfl, hsz, hP, hD0, hX, hY⟩ := hv
  have hx := B.exec
  have hb := B.bytes
  have hr := B.returns
  have htw : ∀ w ∈ tw_L, w.before _ s = true := fun w hw => atoms_spec (ws := (Cond.code y_N_state c_N_state 3 (some .int) :: tw_L)) B.pre w (List.mem_cons_of_mem _ hw)
  have hown : s.vm.findClass R_N = some m.cls := findClass_of_methodNamed B.named
  have hlocks := B.notSynchronized
  have hC : CallFix p m c c_N_state 3 s _ tw_L R_N := ⟨hx, hb, hml, hown, htw⟩
  have hK := hY.1
  have hl := lv_entry ([.ref r, .int x, .int y]) (n := 3) (Nat.le_of_ble_eq_true rfl)
  rw [lg_entry_eq]
  generalize (lg_sl ([.ref r, .int x, .int y]) ++ List.replicate (3 - (lg_sl ([.ref r, .int x, .int y])).length) Slot.unset).toArray = ls at hl ⊢
  have hl : lv_has ls 3 [(0, .ref r), (1, .int x), (2, .int y)] := hl
  subst hsz
  obtain ⟨A, hAe⟩ : ∃ A : Nat → Prop, A = va_A (ws_N cI r rr ra th Sr (off, nm, ng, now, F, R)) s.heap.size := ⟨_, rfl⟩
  have hD : va_D A (ws_N cI r rr ra th Sr (off, nm, ng, now, F, R)) := by rw [hAe]; exact hD0.self
  have hA : ∀ q : Nat, s.heap.size ≤ q → A q := fun q h => by rw [hAe]; exact Or.inr h
  have hS : va_S A s.heap s.heap [] := va_S.rf
  obtain ⟨hof, hn20, hnow, ht4, hM, hZ, hG, hcn⟩ := id hI
  have hg200 : ng ≤ 200 := by have := cn_0 hM hcn; omega
  refine lv_aload_n hx hb d_N_state_0 rfl (lv_at hl 0 rfl) ?_
  refine lv_aload_n hx hb d_N_state_1 rfl (lv_at hl 0 rfl) ?_
  refine lv_iload_n hx hb d_N_state_2 rfl (lv_at hl 1 rfl) ?_
  refine cp_V (n := 1) [.int x] hC (t_N_isMovement l D cM cG cI cJ r rr ra th Sr off nm ng now F R x) ⟨kc_N_isMovement, kn_N, k_N_100, ki_N_isMovement, kv_N_isMovement⟩ (by decide +kernel) ⟨rfl, rfl, Nat.le_of_ble_eq_true rfl, Nat.le_of_ble_eq_true rfl⟩ x_0 (yt_Y D cM cG cI cJ) hY hP (va_recv hK hP (ci := 3) (q0 := 0) rfl rfl) rfl hl.1 rfl (Nat.le_of_ble_eq_true rfl) d_N_state_3 ⟨Nat.le_of_ble_eq_true rfl, Nat.le_of_ble_eq_true rfl⟩ (fun r1 h2 => ?_)
  rcases h2 with ⟨rfl, b3⟩ | ⟨rfl, b3⟩
  · obtain ⟨i, hi, rfl⟩ := ix_of (show nm < 2147483648 by omega) b3
    have hix := b3
    have hcl : (nI i).toNatClampNeg = i := nI_clamp (by omega)
    have hMi := hM i hi
    have hi20 : i < 20 := by omega
    refine lv_if_eq (tgt := 23) hx hb d_N_state_6 (by decide) (fun q9 => absurd q9 (by decide)) (fun _ => ?_)
    refine lv_iload_n hx hb d_N_state_9 rfl (lv_at hl 2 rfl) ?_
    refine lv_iconst (v := 0) hx hb d_N_state_10 (by decide) ?_
    refine lv_bipush (v := 8) hx hb d_N_state_11 (by decide) ?_
    refine cp_S (n := 3) [.int y, .int 0, .int 8] hC (t_N_in l D cM cG cI cJ y 0 8) ⟨kc_N_in, kn_N, k_N_90, ks_N_in⟩ (by decide +kernel) ⟨rfl, rfl, Nat.le_of_ble_eq_true rfl, Nat.le_of_ble_eq_true rfl⟩ x_0 (yt_Y D cM cG cI cJ) hY trivial rfl hl.1 rfl (Nat.le_of_ble_eq_true rfl) d_N_state_13 ⟨Nat.le_of_ble_eq_true rfl, Nat.le_of_ble_eq_true rfl⟩ (fun r4 h5 => ?_)
    rcases h5 with ⟨rfl, b6⟩ | ⟨rfl, b6⟩
    · refine lv_if_eq (tgt := 23) hx hb d_N_state_16 (by decide) (fun q9 => absurd q9 (by decide)) (fun _ => ?_)
      refine lv_iconst (v := 0) hx hb d_N_state_19 (by decide) ?_
      refine lv_goto (tgt := 24) hx hb d_N_state_20 (by decide) ?_
      refine va_put (D := D) (ci := 3) (v := .int 0) (ty := .int) (C := R_N) (T := F_N) (N := 25) hx hb htw uw_N ft_N tk_N n_N hown hK hP hD hS 0 rfl rfl 0 (by decide) (htw _ k_N_74) (fun _ h9 => h9) rfl (by decide +kernel) rfl rfl (Nat.le_of_ble_eq_true rfl) d_N_state_24 (fun H locs hP hD hS => ?_)
      have hP : va_P D cl_L (ws_N cI r rr ra 0 Sr (off, nm, ng, now, F, R)) H := hP
      have hD : va_D A (ws_N cI r rr ra 0 Sr (off, nm, ng, now, F, R)) := hD
      refine lv_aload_n hx hb d_N_state_27 rfl (lv_at hl 0 rfl) ?_
      refine va_get (D := D) (C := R_N) (T := F_N) (N := 25) hx hb htw uw_N hown hK hP 0 rfl rfl 0 (by decide) (htw _ k_N_74) (fun _ h9 => h9) rfl d_N_state_28 ?_
      refine lv_if_le (tgt := 36) hx hb d_N_state_31 (by decide) (fun _ => ?_) (fun q9 => (q9 (by decide)).elim)
      refine lv_iload_n hx hb d_N_state_36 rfl (lv_at hl 2 rfl) ?_
      by_cases e7 : y = 0
      · refine sk_as e7 ?_
        refine lv_tableIn (off := 47) (tgt := 84) hx hb d_N_state_37 (by decide) (by decide) rfl (by decide) ?_
        refine lv_aload_n hx hb d_N_state_84 rfl (lv_at hl 0 rfl) ?_
        refine va_get (D := D) (C := R_N) (T := F_N) (N := 25) hx hb htw uw_N hown hK hP 0 rfl rfl 15 (by decide) (htw _ k_N_40) (fun _ h9 => h9) rfl d_N_state_85 ?_
        refine lv_iload_n hx hb d_N_state_88 rfl (lv_at hl 1 rfl) ?_
        refine ar_ld hx hb hK hP 12 2 rfl rfl hi20 (by decide) d_N_state_89 ?_
        subst hAe
        have e_S : sp_st (off, nm, ng, now, F, R) (nI i) y = (0, (F 10 i)) := by simp only [sp_st, hcl]; rw [if_pos hix, if_pos e7]
        exact W.iret (v := (F 10 i)) hx hb hr (fun t ht hW => ⟨⟨_, (), rfl, fun _ => by rw [e_S], by rw [ht, e_S]; exact hP, by rw [e_S]; exact hD⟩, hS.F ht⟩) hS.2.2 d_N_state_90
      · by_cases e8 : y = 1
        · refine sk_as e8 ?_
          refine lv_tableIn (off := 54) (tgt := 91) hx hb d_N_state_37 (by decide) (by decide) rfl (by decide) ?_
          refine lv_aload_n hx hb d_N_state_91 rfl (lv_at hl 0 rfl) ?_
          refine va_get (D := D) (C := R_N) (T := F_N) (N := 25) hx hb htw uw_N hown hK hP 0 rfl rfl 16 (by decide) (htw _ k_N_43) (fun _ h9 => h9) rfl d_N_state_92 ?_
          refine lv_iload_n hx hb d_N_state_95 rfl (lv_at hl 1 rfl) ?_
          refine ar_ld hx hb hK hP 13 2 rfl rfl hi20 (by decide) d_N_state_96 ?_
          subst hAe
          have e_S : sp_st (off, nm, ng, now, F, R) (nI i) y = (0, (F 11 i)) := by simp only [sp_st, hcl]; rw [if_pos hix, if_neg e7, if_pos e8]
          exact W.iret (v := (F 11 i)) hx hb hr (fun t ht hW => ⟨⟨_, (), rfl, fun _ => by rw [e_S], by rw [ht, e_S]; exact hP, by rw [e_S]; exact hD⟩, hS.F ht⟩) hS.2.2 d_N_state_97
        · by_cases e9 : y = 2
          · refine sk_as e9 ?_
            refine lv_tableIn (off := 61) (tgt := 98) hx hb d_N_state_37 (by decide) (by decide) rfl (by decide) ?_
            refine lv_aload_n hx hb d_N_state_98 rfl (lv_at hl 0 rfl) ?_
            refine va_get (D := D) (C := R_N) (T := F_N) (N := 25) hx hb htw uw_N hown hK hP 0 rfl rfl 17 (by decide) (htw _ k_N_46) (fun _ h9 => h9) rfl d_N_state_99 ?_
            refine lv_iload_n hx hb d_N_state_102 rfl (lv_at hl 1 rfl) ?_
            refine ar_ld hx hb hK hP 14 2 rfl rfl hi20 (by decide) d_N_state_103 ?_
            subst hAe
            have e_S : sp_st (off, nm, ng, now, F, R) (nI i) y = (0, (F 12 i)) := by simp only [sp_st, hcl]; rw [if_pos hix, if_neg e7, if_neg e8, if_pos e9]
            exact W.iret (v := (F 12 i)) hx hb hr (fun t ht hW => ⟨⟨_, (), rfl, fun _ => by rw [e_S], by rw [ht, e_S]; exact hP, by rw [e_S]; exact hD⟩, hS.F ht⟩) hS.2.2 d_N_state_104
          · by_cases e10 : y = 3
            · refine sk_as e10 ?_
              refine lv_tableIn (off := 68) (tgt := 105) hx hb d_N_state_37 (by decide) (by decide) rfl (by decide) ?_
              refine lv_aload_n hx hb d_N_state_105 rfl (lv_at hl 0 rfl) ?_
              refine va_get (D := D) (C := R_N) (T := F_N) (N := 25) hx hb htw uw_N hown hK hP 0 rfl rfl 18 (by decide) (htw _ k_N_49) (fun _ h9 => h9) rfl d_N_state_106 ?_
              refine lv_iload_n hx hb d_N_state_109 rfl (lv_at hl 1 rfl) ?_
              refine ar_ld hx hb hK hP 15 2 rfl rfl hi20 (by decide) d_N_state_110 ?_
              subst hAe
              have e_S : sp_st (off, nm, ng, now, F, R) (nI i) y = (0, (F 13 i)) := by simp only [sp_st, hcl]; rw [if_pos hix, if_neg e7, if_neg e8, if_neg e9, if_pos e10]
              exact W.iret (v := (F 13 i)) hx hb hr (fun t ht hW => ⟨⟨_, (), rfl, fun _ => by rw [e_S], by rw [ht, e_S]; exact hP, by rw [e_S]; exact hD⟩, hS.F ht⟩) hS.2.2 d_N_state_111
            · by_cases e11 : y = 4
              · refine sk_as e11 ?_
                refine lv_tableIn (off := 75) (tgt := 112) hx hb d_N_state_37 (by decide) (by decide) rfl (by decide) ?_
                refine lv_aload_n hx hb d_N_state_112 rfl (lv_at hl 0 rfl) ?_
                refine va_get (D := D) (C := R_N) (T := F_N) (N := 25) hx hb htw uw_N hown hK hP 0 rfl rfl 19 (by decide) (htw _ k_N_52) (fun _ h9 => h9) rfl d_N_state_113 ?_
                refine lv_iload_n hx hb d_N_state_116 rfl (lv_at hl 1 rfl) ?_
                refine ar_ld hx hb hK hP 16 2 rfl rfl hi20 (by decide) d_N_state_117 ?_
                subst hAe
                have e_S : sp_st (off, nm, ng, now, F, R) (nI i) y = (0, (F 14 i)) := by simp only [sp_st, hcl]; rw [if_pos hix, if_neg e7, if_neg e8, if_neg e9, if_neg e10, if_pos e11]
                exact W.iret (v := (F 14 i)) hx hb hr (fun t ht hW => ⟨⟨_, (), rfl, fun _ => by rw [e_S], by rw [ht, e_S]; exact hP, by rw [e_S]; exact hD⟩, hS.F ht⟩) hS.2.2 d_N_state_118
              · by_cases e12 : y = 5
                · refine sk_as e12 ?_
                  refine lv_tableIn (off := 82) (tgt := 119) hx hb d_N_state_37 (by decide) (by decide) rfl (by decide) ?_
                  refine lv_aload_n hx hb d_N_state_119 rfl (lv_at hl 0 rfl) ?_
                  refine va_get (D := D) (C := R_N) (T := F_N) (N := 25) hx hb htw uw_N hown hK hP 0 rfl rfl 20 (by decide) (htw _ k_N_55) (fun _ h9 => h9) rfl d_N_state_120 ?_
                  refine lv_iload_n hx hb d_N_state_123 rfl (lv_at hl 1 rfl) ?_
                  refine ar_ld hx hb hK hP 17 2 rfl rfl hi20 (by decide) d_N_state_124 ?_
                  subst hAe
                  have e_S : sp_st (off, nm, ng, now, F, R) (nI i) y = (0, (F 15 i)) := by simp only [sp_st, hcl]; rw [if_pos hix, if_neg e7, if_neg e8, if_neg e9, if_neg e10, if_neg e11, if_pos e12]
                  exact W.iret (v := (F 15 i)) hx hb hr (fun t ht hW => ⟨⟨_, (), rfl, fun _ => by rw [e_S], by rw [ht, e_S]; exact hP, by rw [e_S]; exact hD⟩, hS.F ht⟩) hS.2.2 d_N_state_125
                · by_cases e13 : y = 6
                  · refine sk_as e13 ?_
                    refine lv_tableIn (off := 89) (tgt := 126) hx hb d_N_state_37 (by decide) (by decide) rfl (by decide) ?_
                    refine lv_aload_n hx hb d_N_state_126 rfl (lv_at hl 0 rfl) ?_
                    refine va_get (D := D) (C := R_N) (T := F_N) (N := 25) hx hb htw uw_N hown hK hP 0 rfl rfl 21 (by decide) (htw _ k_N_58) (fun _ h9 => h9) rfl d_N_state_127 ?_
                    refine lv_iload_n hx hb d_N_state_130 rfl (lv_at hl 1 rfl) ?_
                    refine ar_ld hx hb hK hP 18 2 rfl rfl hi20 (by decide) d_N_state_131 ?_
                    subst hAe
                    have e_S : sp_st (off, nm, ng, now, F, R) (nI i) y = (0, (F 16 i)) := by simp only [sp_st, hcl]; rw [if_pos hix, if_neg e7, if_neg e8, if_neg e9, if_neg e10, if_neg e11, if_neg e12, if_pos e13]
                    exact W.iret (v := (F 16 i)) hx hb hr (fun t ht hW => ⟨⟨_, (), rfl, fun _ => by rw [e_S], by rw [ht, e_S]; exact hP, by rw [e_S]; exact hD⟩, hS.F ht⟩) hS.2.2 d_N_state_132
                  · by_cases e14 : y = 7
                    · refine sk_as e14 ?_
                      refine lv_tableIn (off := 96) (tgt := 133) hx hb d_N_state_37 (by decide) (by decide) rfl (by decide) ?_
                      refine lv_aload_n hx hb d_N_state_133 rfl (lv_at hl 0 rfl) ?_
                      refine va_get (D := D) (C := R_N) (T := F_N) (N := 25) hx hb htw uw_N hown hK hP 0 rfl rfl 21 (by decide) (htw _ k_N_58) (fun _ h9 => h9) rfl d_N_state_134 ?_
                      refine lv_iload_n hx hb d_N_state_137 rfl (lv_at hl 1 rfl) ?_
                      refine ar_ld hx hb hK hP 18 2 rfl rfl hi20 (by decide) d_N_state_138 ?_
                      refine lv_if_ge (tgt := 146) hx hb d_N_state_139 (by decide) (fun c15 => ?_) (fun c15 => ?_)
                      · refine lv_aload_n hx hb d_N_state_146 rfl (lv_at hl 0 rfl) ?_
                        refine va_get (D := D) (C := R_N) (T := F_N) (N := 25) hx hb htw uw_N hown hK hP 0 rfl rfl 9 (by decide) (htw _ k_N_22) (fun _ h9 => h9) rfl d_N_state_147 ?_
                        refine lv_iload_n hx hb d_N_state_150 rfl (lv_at hl 1 rfl) ?_
                        refine ar_ld hx hb hK hP 6 2 rfl rfl hi20 (by decide) d_N_state_151 ?_
                        refine lv_aload_n hx hb d_N_state_152 rfl (lv_at hl 0 rfl) ?_
                        refine va_get (D := D) (C := R_N) (T := F_N) (N := 25) hx hb htw uw_N hown hK hP 0 rfl rfl 21 (by decide) (htw _ k_N_58) (fun _ h9 => h9) rfl d_N_state_153 ?_
                        refine lv_iload_n hx hb d_N_state_156 rfl (lv_at hl 1 rfl) ?_
                        refine ar_ld hx hb hK hP 18 2 rfl rfl hi20 (by decide) d_N_state_157 ?_
                        refine lv_isub hx hb d_N_state_158 ?_
                        subst hAe
                        have e_S : sp_st (off, nm, ng, now, F, R) (nI i) y = (0, ((F 4 i) - (F 16 i))) := by simp only [sp_st, hcl]; rw [if_pos hix, if_neg e7, if_neg e8, if_neg e9, if_neg e10, if_neg e11, if_neg e12, if_neg e13, if_pos e14, if_neg (fun q => absurd c15 (by rw [q]; decide))]
                        exact W.iret (v := ((F 4 i) - (F 16 i))) hx hb hr (fun t ht hW => ⟨⟨_, (), rfl, fun _ => by rw [e_S], by rw [ht, e_S]; exact hP, by rw [e_S]; exact hD⟩, hS.F ht⟩) hS.2.2 d_N_state_159
                      · refine lv_iconst (v := (-1)) hx hb d_N_state_142 (by decide) ?_
                        refine lv_goto (tgt := 159) hx hb d_N_state_143 (by decide) ?_
                        subst hAe
                        have e_S : sp_st (off, nm, ng, now, F, R) (nI i) y = (0, (-1)) := by simp only [sp_st, hcl]; rw [if_pos hix, if_neg e7, if_neg e8, if_neg e9, if_neg e10, if_neg e11, if_neg e12, if_neg e13, if_pos e14, if_pos ((n_1 hMi.2.2.2.2.2.2.2.2.2.2.2.2.2.2.1).mp (Int32.not_le.mp c15))]
                        exact W.iret (v := (-1)) hx hb hr (fun t ht hW => ⟨⟨_, (), rfl, fun _ => by rw [e_S], by rw [ht, e_S]; exact hP, by rw [e_S]; exact hD⟩, hS.F ht⟩) hS.2.2 d_N_state_159
                    · refine lv_tableOut (tgt := 160) hx hb d_N_state_37 (by have := ne_I (n := 0) e7; have := ne_I (n := 1) e8; have := ne_I (n := 2) e9; have := ne_I (n := 3) e10; have := ne_I (n := 4) e11; have := ne_I (n := 5) e12; have := ne_I (n := 6) e13; have := ne_I (n := 7) e14; omega) (by decide) ?_
                      refine lv_aload_n hx hb d_N_state_160 rfl (lv_at hl 0 rfl) ?_
                      refine va_get (D := D) (C := R_N) (T := F_N) (N := 25) hx hb htw uw_N hown hK hP 0 rfl rfl 19 (by decide) (htw _ k_N_52) (fun _ h9 => h9) rfl d_N_state_161 ?_
                      refine lv_iload_n hx hb d_N_state_164 rfl (lv_at hl 1 rfl) ?_
                      refine ar_ld hx hb hK hP 16 2 rfl rfl hi20 (by decide) d_N_state_165 ?_
                      refine lv_if_lt (tgt := 188) hx hb d_N_state_166 (by decide) (fun c16 => ?_) (fun c16 => ?_)
                      · refine lv_iconst (v := 0) hx hb d_N_state_188 (by decide) ?_
                        subst hAe
                        have e_S : sp_st (off, nm, ng, now, F, R) (nI i) y = (0, 0) := by simp only [sp_st, hcl]; rw [if_pos hix, if_neg e7, if_neg e8, if_neg e9, if_neg e10, if_neg e11, if_neg e12, if_neg e13, if_neg e14, if_pos (wi_8 b6 e7 e8 e9 e10 e11 e12 e13 e14), if_neg (fun q => q.1 ((n_1 hMi.2.2.2.2.2.2.2.2.2.2.2.2.2.1).mp c16))]
                        exact W.iret (v := 0) hx hb hr (fun t ht hW => ⟨⟨_, (), rfl, fun _ => by rw [e_S], by rw [ht, e_S]; exact hP, by rw [e_S]; exact hD⟩, hS.F ht⟩) hS.2.2 d_N_state_189
                      · refine lv_aload_n hx hb d_N_state_169 rfl (lv_at hl 0 rfl) ?_
                        refine va_get (D := D) (C := R_N) (T := F_N) (N := 25) hx hb htw uw_N hown hK hP 0 rfl rfl 19 (by decide) (htw _ k_N_52) (fun _ h9 => h9) rfl d_N_state_170 ?_
                        refine lv_iload_n hx hb d_N_state_173 rfl (lv_at hl 1 rfl) ?_
                        refine ar_ld hx hb hK hP 16 2 rfl rfl hi20 (by decide) d_N_state_174 ?_
                        refine lv_aload_n hx hb d_N_state_175 rfl (lv_at hl 0 rfl) ?_
                        refine va_get (D := D) (C := R_N) (T := F_N) (N := 25) hx hb htw uw_N hown hK hP 0 rfl rfl 8 (by decide) (htw _ k_N_19) (fun _ h9 => h9) rfl d_N_state_176 ?_
                        refine lv_iload_n hx hb d_N_state_179 rfl (lv_at hl 1 rfl) ?_
                        refine ar_ld hx hb hK hP 5 2 rfl rfl hi20 (by decide) d_N_state_180 ?_
                        refine lv_icmp_eq (tgt := 188) hx hb d_N_state_181 (by decide) (fun c17 => ?_) (fun c17 => ?_)
                        · refine lv_iconst (v := 0) hx hb d_N_state_188 (by decide) ?_
                          subst hAe
                          have e_S : sp_st (off, nm, ng, now, F, R) (nI i) y = (0, 0) := by simp only [sp_st, hcl]; rw [if_pos hix, if_neg e7, if_neg e8, if_neg e9, if_neg e10, if_neg e11, if_neg e12, if_neg e13, if_neg e14, if_pos (wi_8 b6 e7 e8 e9 e10 e11 e12 e13 e14), if_neg (fun q => q.2 c17)]
                          exact W.iret (v := 0) hx hb hr (fun t ht hW => ⟨⟨_, (), rfl, fun _ => by rw [e_S], by rw [ht, e_S]; exact hP, by rw [e_S]; exact hD⟩, hS.F ht⟩) hS.2.2 d_N_state_189
                        · refine lv_iconst (v := 1) hx hb d_N_state_184 (by decide) ?_
                          refine lv_goto (tgt := 189) hx hb d_N_state_185 (by decide) ?_
                          subst hAe
                          have e_S : sp_st (off, nm, ng, now, F, R) (nI i) y = (0, 1) := by simp only [sp_st, hcl]; rw [if_pos hix, if_neg e7, if_neg e8, if_neg e9, if_neg e10, if_neg e11, if_neg e12, if_neg e13, if_neg e14, if_pos (wi_8 b6 e7 e8 e9 e10 e11 e12 e13 e14), if_pos ⟨fun q => c16 ((n_1 hMi.2.2.2.2.2.2.2.2.2.2.2.2.2.1).mpr q), c17⟩]
                          exact W.iret (v := 1) hx hb hr (fun t ht hW => ⟨⟨_, (), rfl, fun _ => by rw [e_S], by rw [ht, e_S]; exact hP, by rw [e_S]; exact hD⟩, hS.F ht⟩) hS.2.2 d_N_state_189
    · refine lv_if_eq (tgt := 23) hx hb d_N_state_16 (by decide) (fun _ => ?_) (fun q9 => absurd rfl q9)
      refine lv_iconst (v := 1) hx hb d_N_state_23 (by decide) ?_
      refine va_put (D := D) (ci := 3) (v := .int 1) (ty := .int) (C := R_N) (T := F_N) (N := 25) hx hb htw uw_N ft_N tk_N n_N hown hK hP hD hS 0 rfl rfl 0 (by decide) (htw _ k_N_74) (fun _ h9 => h9) rfl (by decide +kernel) rfl rfl (Nat.le_of_ble_eq_true rfl) d_N_state_24 (fun H locs hP hD hS => ?_)
      have hP : va_P D cl_L (ws_N cI r rr ra 1 Sr (off, nm, ng, now, F, R)) H := hP
      have hD : va_D A (ws_N cI r rr ra 1 Sr (off, nm, ng, now, F, R)) := hD
      refine lv_aload_n hx hb d_N_state_27 rfl (lv_at hl 0 rfl) ?_
      refine va_get (D := D) (C := R_N) (T := F_N) (N := 25) hx hb htw uw_N hown hK hP 0 rfl rfl 0 (by decide) (htw _ k_N_74) (fun _ h9 => h9) rfl d_N_state_28 ?_
      refine lv_if_le (tgt := 36) hx hb d_N_state_31 (by decide) (fun q9 => absurd q9 (by decide)) (fun _ => ?_)
      refine lv_iconst (v := 0) hx hb d_N_state_34 (by decide) ?_
      subst hAe
      have e_S : sp_st (off, nm, ng, now, F, R) (nI i) y = (1, 0) := by simp only [sp_st, hcl]; rw [if_pos hix, if_neg (fun q => b6 (by rw [q]; decide)), if_neg (fun q => b6 (by rw [q]; decide)), if_neg (fun q => b6 (by rw [q]; decide)), if_neg (fun q => b6 (by rw [q]; decide)), if_neg (fun q => b6 (by rw [q]; decide)), if_neg (fun q => b6 (by rw [q]; decide)), if_neg (fun q => b6 (by rw [q]; decide)), if_neg (fun q => b6 (by rw [q]; decide)), if_neg (fun q => b6 (by rw [q]; decide))]
      exact W.iret (v := 0) hx hb hr (fun t ht hW => ⟨⟨_, (), rfl, fun _ => by rw [e_S], by rw [ht, e_S]; exact hP, by rw [e_S]; exact hD⟩, hS.F ht⟩) hS.2.2 d_N_state_35
  · refine lv_if_eq (tgt := 23) hx hb d_N_state_6 (by decide) (fun _ => ?_) (fun q9 => absurd rfl q9)
    refine lv_iconst (v := 1) hx hb d_N_state_23 (by decide) ?_
    refine va_put (D := D) (ci := 3) (v := .int 1) (ty := .int) (C := R_N) (T := F_N) (N := 25) hx hb htw uw_N ft_N tk_N n_N hown hK hP hD hS 0 rfl rfl 0 (by decide) (htw _ k_N_74) (fun _ h9 => h9) rfl (by decide +kernel) rfl rfl (Nat.le_of_ble_eq_true rfl) d_N_state_24 (fun H locs hP hD hS => ?_)
    have hP : va_P D cl_L (ws_N cI r rr ra 1 Sr (off, nm, ng, now, F, R)) H := hP
    have hD : va_D A (ws_N cI r rr ra 1 Sr (off, nm, ng, now, F, R)) := hD
    refine lv_aload_n hx hb d_N_state_27 rfl (lv_at hl 0 rfl) ?_
    refine va_get (D := D) (C := R_N) (T := F_N) (N := 25) hx hb htw uw_N hown hK hP 0 rfl rfl 0 (by decide) (htw _ k_N_74) (fun _ h9 => h9) rfl d_N_state_28 ?_
    refine lv_if_le (tgt := 36) hx hb d_N_state_31 (by decide) (fun q9 => absurd q9 (by decide)) (fun _ => ?_)
    refine lv_iconst (v := 0) hx hb d_N_state_34 (by decide) ?_
    subst hAe
    have e_S : sp_st (off, nm, ng, now, F, R) x y = (1, 0) := by simp only [sp_st]; rw [if_neg b3]
    exact W.iret (v := 0) hx hb hr (fun t ht hW => ⟨⟨_, (), rfl, fun _ => by rw [e_S], by rw [ht, e_S]; exact hP, by rw [e_S]; exact hD⟩, hS.F ht⟩) hS.2.2 d_N_state_35
set_option maxHeartbeats 4000000 in
set_option maxRecDepth 100000 in
theorem t_N_office (l : Launch) (D : va_G) (cM cG cI cJ : ClassId) (r rr : Nat) (ra : Nat → Nat) (th : Int32) (Sr : Nat → Int32) (off : Int32) (nm ng : Nat) (now : Int32) (F : Nat → Nat → Int32) (R : Nat → Int32) (sz : Nat) (x : Int32) (y : Int32) (t9 : Nat) (hI : iv_S t9 (off, nm, ng, now, F, R)) (hSr : sr_P Sr (off, nm, ng, now, F, R)) : Met l y_N_office (Cond.code y_N_office c_N_office 4 (some .int) :: tw_L) ({ frames := 1, cells := 0, slots := 0, locals := 21 } : Room) (mu_P D (ws_N cI r rr ra th Sr (off, nm, ng, now, F, R)) sz (fun _ _ => True) (yt_P D cM cG cI cJ) [.ref r, .int x, .int y]) (va_Qi (fun (v : Int32) (_ : Unit) => (sp_of (off, nm, ng, now, F, R) x y).1 = 0 → v = (sp_of (off, nm, ng, now, F, R) x y).2) (mu_B D (ws_N cI r rr ra th Sr (off, nm, ng, now, F, R)) sz (fun _ => ws_N cI r rr ra (sp_of (off, nm, ng, now, F, R) x y).1 Sr (off, nm, ng, now, F, R))) (va_A (ws_N cI r rr ra th Sr (off, nm, ng, now, F, R)) sz)) 0 0 (va_A (ws_N cI r rr ra th Sr (off, nm, ng, now, F, R)) sz) := by
  refine Met.ofW (cc := c_N_office) (maxL := 4) (ret := (some .int)) (by decide) rfl ?_
  intro p e s m args below meth c s₁ B hml hv
  obtain ⟨rfl, hsz, hP, hD0, hX, hY⟩ := hv
  have hx := B.exec
  have hb := B.bytes
  have hr := B.returns
  have htw : ∀ w ∈ tw_L, w.before _ s = true := fun w hw => atoms_spec (ws := (Cond.code y_N_office c_N_office 4 (some .int) :: tw_L)) B.pre w (List.mem_cons_of_mem _ hw)
  have hown : s.vm.findClass R_N = some m.cls := findClass_of_methodNamed B.named
  have hlocks := B.notSynchronized
  have hC : CallFix p m c c_N_office 4 s _ tw_L R_N := ⟨hx, hb, hml, hown, htw⟩
  have hK := hY.1
  have hl := lv_entry ([.ref r, .int x, .int y]) (n := 4) (Nat.le_of_ble_eq_true rfl)
  rw [lg_entry_eq]
  generalize (lg_sl ([.ref r, .int x, .int y]) ++ List.replicate (4 - (lg_sl ([.ref r, .int x, .int y])).length) Slot.unset).toArray = ls at hl ⊢
  have hl : lv_has ls 4 [(0, .ref r), (1, .int x), (2, .int y)] := hl
  subst hsz
  obtain ⟨A, hAe⟩ : ∃ A : Nat → Prop, A = va_A (ws_N cI r rr ra th Sr (off, nm, ng, now, F, R)) s.heap.size := ⟨_, rfl⟩
  have hD : va_D A (ws_N cI r rr ra th Sr (off, nm, ng, now, F, R)) := by rw [hAe]; exact hD0.self
  have hA : ∀ q : Nat, s.heap.size ≤ q → A q := fun q h => by rw [hAe]; exact Or.inr h
  have hS : va_S A s.heap s.heap [] := va_S.rf
  obtain ⟨hof, hn20, hnow, ht4, hM, hZ, hG, hcn⟩ := id hI
  have hg200 : ng ≤ 200 := by have := cn_0 hM hcn; omega
  refine lv_aload_n hx hb d_N_office_0 rfl (lv_at hl 0 rfl) ?_
  refine lv_aload_n hx hb d_N_office_1 rfl (lv_at hl 0 rfl) ?_
  refine lv_iload_n hx hb d_N_office_2 rfl (lv_at hl 1 rfl) ?_
  refine cp_V (n := 1) [.int x] hC (t_N_isMovement l D cM cG cI cJ r rr ra th Sr off nm ng now F R x) ⟨kc_N_isMovement, kn_N, k_N_100, ki_N_isMovement, kv_N_isMovement⟩ (by decide +kernel) ⟨rfl, rfl, Nat.le_of_ble_eq_true rfl, Nat.le_of_ble_eq_true rfl⟩ x_0 (yt_Y D cM cG cI cJ) hY hP (va_recv hK hP (ci := 3) (q0 := 0) rfl rfl) rfl hl.1 rfl (Nat.le_of_ble_eq_true rfl) d_N_office_3 ⟨Nat.le_of_ble_eq_true rfl, Nat.le_of_ble_eq_true rfl⟩ (fun r1 h2 => ?_)
  rcases h2 with ⟨rfl, b3⟩ | ⟨rfl, b3⟩
  · obtain ⟨i, hi, rfl⟩ := ix_of (show nm < 2147483648 by omega) b3
    have hix := b3
    have hcl : (nI i).toNatClampNeg = i := nI_clamp (by omega)
    have hMi := hM i hi
    have hi20 : i < 20 := by omega
    refine lv_if_eq (tgt := 21) hx hb d_N_office_6 (by decide) (fun q9 => absurd q9 (by decide)) (fun _ => ?_)
    refine lv_aload_n hx hb d_N_office_9 rfl (lv_at hl 0 rfl) ?_
    refine lv_iload_n hx hb d_N_office_10 rfl (lv_at hl 2 rfl) ?_
    refine cp_V (n := 1) [.int y] hC (t_N_isOffice l D cM cG cI cJ r rr ra th Sr off nm ng now F R y) ⟨kc_N_isOffice, kn_N, k_N_83, ki_N_isOffice, kv_N_isOffice⟩ (by decide +kernel) ⟨rfl, rfl, Nat.le_of_ble_eq_true rfl, Nat.le_of_ble_eq_true rfl⟩ x_0 (yt_Y D cM cG cI cJ) hY hP (va_recv hK hP (ci := 3) (q0 := 0) rfl rfl) rfl hl.1 rfl (Nat.le_of_ble_eq_true rfl) d_N_office_11 ⟨Nat.le_of_ble_eq_true rfl, Nat.le_of_ble_eq_true rfl⟩ (fun r4 h5 => ?_)
    rcases h5 with ⟨rfl, b6⟩ | ⟨rfl, b6⟩
    · refine lv_if_eq (tgt := 21) hx hb d_N_office_14 (by decide) (fun q9 => absurd q9 (by decide)) (fun _ => ?_)
      refine lv_iconst (v := 0) hx hb d_N_office_17 (by decide) ?_
      refine lv_goto (tgt := 22) hx hb d_N_office_18 (by decide) ?_
      refine va_put (D := D) (ci := 3) (v := .int 0) (ty := .int) (C := R_N) (T := F_N) (N := 25) hx hb htw uw_N ft_N tk_N n_N hown hK hP hD hS 0 rfl rfl 0 (by decide) (htw _ k_N_74) (fun _ h9 => h9) rfl (by decide +kernel) rfl rfl (Nat.le_of_ble_eq_true rfl) d_N_office_22 (fun H locs hP hD hS => ?_)
      have hP : va_P D cl_L (ws_N cI r rr ra 0 Sr (off, nm, ng, now, F, R)) H := hP
      have hD : va_D A (ws_N cI r rr ra 0 Sr (off, nm, ng, now, F, R)) := hD
      refine lv_aload_n hx hb d_N_office_25 rfl (lv_at hl 0 rfl) ?_
      refine va_get (D := D) (C := R_N) (T := F_N) (N := 25) hx hb htw uw_N hown hK hP 0 rfl rfl 0 (by decide) (htw _ k_N_74) (fun _ h9 => h9) rfl d_N_office_26 ?_
      refine lv_if_le (tgt := 34) hx hb d_N_office_29 (by decide) (fun _ => ?_) (fun q9 => (q9 (by decide)).elim)
      refine lv_aload_n hx hb d_N_office_34 rfl (lv_at hl 0 rfl) ?_
      refine va_get (D := D) (C := R_N) (T := F_N) (N := 25) hx hb htw uw_N hown hK hP 0 rfl rfl 5 (by decide) (htw _ k_N_7) (fun _ h9 => h9) rfl d_N_office_35 ?_
      refine lv_iload_n hx hb d_N_office_38 rfl (lv_at hl 1 rfl) ?_
      refine ar_ld hx hb hK hP 2 2 rfl rfl hi20 (by decide) d_N_office_39 ?_
      refine lv_iload_n hx hb d_N_office_40 rfl (lv_at hl 2 rfl) ?_
      refine lv_icmp_ne (tgt := 48) hx hb d_N_office_41 (by decide) (fun c7 => ?_) (fun c7 => ?_)
      · refine lv_iconst (v := 0) hx hb d_N_office_48 (by decide) ?_
        refine lv_istore_n (lv' := [(3, .int 0), (0, .ref r), (1, .int (nI i)), (2, .int y)]) hx hb d_N_office_49 rfl hl (by decide) rfl (fun ls hl => ?_)
        refine lv_iload_n hx hb d_N_office_50 rfl (lv_at hl 0 rfl) ?_
        refine lv_aload_n hx hb d_N_office_51 rfl (lv_at hl 1 rfl) ?_
        refine va_get (D := D) (C := R_N) (T := F_N) (N := 25) hx hb htw uw_N hown hK hP 0 rfl rfl 6 (by decide) (htw _ k_N_13) (fun _ h9 => h9) rfl d_N_office_52 ?_
        refine lv_iload_n hx hb d_N_office_55 rfl (lv_at hl 2 rfl) ?_
        refine ar_ld hx hb hK hP 3 2 rfl rfl hi20 (by decide) d_N_office_56 ?_
        refine lv_iload_n hx hb d_N_office_57 rfl (lv_at hl 3 rfl) ?_
        refine lv_icmp_ne (tgt := 81) hx hb d_N_office_58 (by decide) (fun c8 => ?_) (fun c8 => ?_)
        · refine lv_iconst (v := 0) hx hb d_N_office_81 (by decide) ?_
          refine lv_iadd hx hb d_N_office_82 ?_
          refine lv_istore_n (lv' := [(3, .int (0 + 0)), (0, .ref r), (1, .int (nI i)), (2, .int y)]) hx hb d_N_office_83 rfl hl (by decide) rfl (fun ls hl => ?_)
          refine lv_iload_n hx hb d_N_office_84 rfl (lv_at hl 0 rfl) ?_
          refine lv_aload_n hx hb d_N_office_85 rfl (lv_at hl 1 rfl) ?_
          refine va_get (D := D) (C := R_N) (T := F_N) (N := 25) hx hb htw uw_N hown hK hP 0 rfl rfl 11 (by decide) (htw _ k_N_28) (fun _ h9 => h9) rfl d_N_office_86 ?_
          refine lv_iload_n hx hb d_N_office_89 rfl (lv_at hl 2 rfl) ?_
          refine ar_ld hx hb hK hP 8 2 rfl rfl hi20 (by decide) d_N_office_90 ?_
          refine lv_iload_n hx hb d_N_office_91 rfl (lv_at hl 3 rfl) ?_
          refine lv_icmp_ne (tgt := 114) hx hb d_N_office_92 (by decide) (fun c9 => ?_) (fun c9 => ?_)
          · refine lv_iconst (v := 0) hx hb d_N_office_114 (by decide) ?_
            refine lv_iadd hx hb d_N_office_115 ?_
            refine lv_istore_n (lv' := [(3, .int ((0 + 0) + 0)), (0, .ref r), (1, .int (nI i)), (2, .int y)]) hx hb d_N_office_116 rfl hl (by decide) rfl (fun ls hl => ?_)
            refine lv_iload_n hx hb d_N_office_117 rfl (lv_at hl 0 rfl) ?_
            subst hAe
            have e_S : sp_of (off, nm, ng, now, F, R) (nI i) y = (0, ((0 + 0) + 0)) := by simp only [sp_of, hcl]; rw [if_pos ⟨hix, b6⟩]; simp only [bt_I]; rw [if_neg (fun q => c7 q.symm), if_neg (fun q => c8 q.1.symm), if_neg (fun q => c8 q.1.symm), if_neg (fun q => c9 q.symm), if_neg (fun q => c9 q.1.symm)]; rfl
            exact W.iret (v := ((0 + 0) + 0)) hx hb hr (fun t ht hW => ⟨⟨_, (), rfl, fun _ => by rw [e_S], by rw [ht, e_S]; exact hP, by rw [e_S]; exact hD⟩, hS.F ht⟩) hS.2.2 d_N_office_118
          · refine lv_aload_n hx hb d_N_office_95 rfl (lv_at hl 1 rfl) ?_
            refine va_get (D := D) (C := R_N) (T := F_N) (N := 25) hx hb htw uw_N hown hK hP 0 rfl rfl 14 (by decide) (htw _ k_N_37) (fun _ h9 => h9) rfl d_N_office_96 ?_
            refine lv_iload_n hx hb d_N_office_99 rfl (lv_at hl 2 rfl) ?_
            refine ar_ld hx hb hK hP 11 2 rfl rfl hi20 (by decide) d_N_office_100 ?_
            refine lv_if_lt (tgt := 109) hx hb d_N_office_101 (by decide) (fun c10 => ?_) (fun c10 => ?_)
            · refine lv_bipush (v := 8) hx hb d_N_office_109 (by decide) ?_
              refine lv_goto (tgt := 115) hx hb d_N_office_111 (by decide) ?_
              refine lv_iadd hx hb d_N_office_115 ?_
              refine lv_istore_n (lv' := [(3, .int ((0 + 0) + 8)), (0, .ref r), (1, .int (nI i)), (2, .int y)]) hx hb d_N_office_116 rfl hl (by decide) rfl (fun ls hl => ?_)
              refine lv_iload_n hx hb d_N_office_117 rfl (lv_at hl 0 rfl) ?_
              subst hAe
              have e_S : sp_of (off, nm, ng, now, F, R) (nI i) y = (0, ((0 + 0) + 8)) := by simp only [sp_of, hcl]; rw [if_pos ⟨hix, b6⟩]; simp only [bt_I]; rw [if_neg (fun q => c7 q.symm), if_neg (fun q => c8 q.1.symm), if_neg (fun q => c8 q.1.symm), if_pos c9.symm, if_neg (fun q => q.2 ((n_1 hMi.2.2.2.2.2.2.2.2.1).mp c10))]; rfl
              exact W.iret (v := ((0 + 0) + 8)) hx hb hr (fun t ht hW => ⟨⟨_, (), rfl, fun _ => by rw [e_S], by rw [ht, e_S]; exact hP, by rw [e_S]; exact hD⟩, hS.F ht⟩) hS.2.2 d_N_office_118
            · refine lv_bipush (v := 24) hx hb d_N_office_104 (by decide) ?_
              refine lv_goto (tgt := 115) hx hb d_N_office_106 (by decide) ?_
              refine lv_iadd hx hb d_N_office_115 ?_
              refine lv_istore_n (lv' := [(3, .int ((0 + 0) + 24)), (0, .ref r), (1, .int (nI i)), (2, .int y)]) hx hb d_N_office_116 rfl hl (by decide) rfl (fun ls hl => ?_)
              refine lv_iload_n hx hb d_N_office_117 rfl (lv_at hl 0 rfl) ?_
              subst hAe
              have e_S : sp_of (off, nm, ng, now, F, R) (nI i) y = (0, ((0 + 0) + 24)) := by simp only [sp_of, hcl]; rw [if_pos ⟨hix, b6⟩]; simp only [bt_I]; rw [if_neg (fun q => c7 q.symm), if_neg (fun q => c8 q.1.symm), if_neg (fun q => c8 q.1.symm), if_pos c9.symm, if_pos ⟨c9.symm, fun q => c10 ((n_1 hMi.2.2.2.2.2.2.2.2.1).mpr q)⟩]; rfl
              exact W.iret (v := ((0 + 0) + 24)) hx hb hr (fun t ht hW => ⟨⟨_, (), rfl, fun _ => by rw [e_S], by rw [ht, e_S]; exact hP, by rw [e_S]; exact hD⟩, hS.F ht⟩) hS.2.2 d_N_office_118
        · refine lv_iconst (v := 2) hx hb d_N_office_61 (by decide) ?_
          refine lv_aload_n hx hb d_N_office_62 rfl (lv_at hl 1 rfl) ?_
          refine va_get (D := D) (C := R_N) (T := F_N) (N := 25) hx hb htw uw_N hown hK hP 0 rfl rfl 22 (by decide) (htw _ k_N_61) (fun _ h9 => h9) rfl d_N_office_63 ?_
          refine lv_iload_n hx hb d_N_office_66 rfl (lv_at hl 2 rfl) ?_
          refine ar_ld hx hb hK hP 19 2 rfl rfl hi20 (by decide) d_N_office_67 ?_
          refine lv_imul hx hb d_N_office_68 ?_
          refine lv_iconst (v := 4) hx hb d_N_office_69 (by decide) ?_
          refine lv_aload_n hx hb d_N_office_70 rfl (lv_at hl 1 rfl) ?_
          refine va_get (D := D) (C := R_N) (T := F_N) (N := 25) hx hb htw uw_N hown hK hP 0 rfl rfl 23 (by decide) (htw _ k_N_64) (fun _ h9 => h9) rfl d_N_office_71 ?_
          refine lv_iload_n hx hb d_N_office_74 rfl (lv_at hl 2 rfl) ?_
          refine ar_ld hx hb hK hP 20 2 rfl rfl hi20 (by decide) d_N_office_75 ?_
          refine lv_imul hx hb d_N_office_76 ?_
          refine lv_iadd hx hb d_N_office_77 ?_
          refine lv_goto (tgt := 82) hx hb d_N_office_78 (by decide) ?_
          refine lv_iadd hx hb d_N_office_82 ?_
          refine lv_istore_n (lv' := [(3, .int (0 + ((2 * (F 17 i)) + (4 * (F 18 i))))), (0, .ref r), (1, .int (nI i)), (2, .int y)]) hx hb d_N_office_83 rfl hl (by decide) rfl (fun ls hl => ?_)
          refine lv_iload_n hx hb d_N_office_84 rfl (lv_at hl 0 rfl) ?_
          refine lv_aload_n hx hb d_N_office_85 rfl (lv_at hl 1 rfl) ?_
          refine va_get (D := D) (C := R_N) (T := F_N) (N := 25) hx hb htw uw_N hown hK hP 0 rfl rfl 11 (by decide) (htw _ k_N_28) (fun _ h9 => h9) rfl d_N_office_86 ?_
          refine lv_iload_n hx hb d_N_office_89 rfl (lv_at hl 2 rfl) ?_
          refine ar_ld hx hb hK hP 8 2 rfl rfl hi20 (by decide) d_N_office_90 ?_
          refine lv_iload_n hx hb d_N_office_91 rfl (lv_at hl 3 rfl) ?_
          refine lv_icmp_ne (tgt := 114) hx hb d_N_office_92 (by decide) (fun c11 => ?_) (fun c11 => ?_)
          · refine lv_iconst (v := 0) hx hb d_N_office_114 (by decide) ?_
            refine lv_iadd hx hb d_N_office_115 ?_
            refine lv_istore_n (lv' := [(3, .int ((0 + ((2 * (F 17 i)) + (4 * (F 18 i)))) + 0)), (0, .ref r), (1, .int (nI i)), (2, .int y)]) hx hb d_N_office_116 rfl hl (by decide) rfl (fun ls hl => ?_)
            refine lv_iload_n hx hb d_N_office_117 rfl (lv_at hl 0 rfl) ?_
            subst hAe
            have e_S : sp_of (off, nm, ng, now, F, R) (nI i) y = (0, ((0 + ((2 * (F 17 i)) + (4 * (F 18 i)))) + 0)) := by simp only [sp_of, hcl]; rw [if_pos ⟨hix, b6⟩]; simp only [bt_I]; rcases m_17 hMi with q17 | q17 <;> rcases m_18 hMi with q18 | q18 <;> first | (rw [if_neg (fun q => c7 q.symm), if_neg (fun q => q.2 q17), if_neg (fun q => q.2 q18), if_neg (fun q => c11 q.symm), if_neg (fun q => c11 q.1.symm), q17, q18]; rfl) | (rw [if_neg (fun q => c7 q.symm), if_neg (fun q => q.2 q17), if_pos ⟨c8.symm, by rw [q18]; decide⟩, if_neg (fun q => c11 q.symm), if_neg (fun q => c11 q.1.symm), q17, q18]; rfl) | (rw [if_neg (fun q => c7 q.symm), if_pos ⟨c8.symm, by rw [q17]; decide⟩, if_neg (fun q => q.2 q18), if_neg (fun q => c11 q.symm), if_neg (fun q => c11 q.1.symm), q17, q18]; rfl) | (rw [if_neg (fun q => c7 q.symm), if_pos ⟨c8.symm, by rw [q17]; decide⟩, if_pos ⟨c8.symm, by rw [q18]; decide⟩, if_neg (fun q => c11 q.symm), if_neg (fun q => c11 q.1.symm), q17, q18]; rfl)
            exact W.iret (v := ((0 + ((2 * (F 17 i)) + (4 * (F 18 i)))) + 0)) hx hb hr (fun t ht hW => ⟨⟨_, (), rfl, fun _ => by rw [e_S], by rw [ht, e_S]; exact hP, by rw [e_S]; exact hD⟩, hS.F ht⟩) hS.2.2 d_N_office_118
          · refine lv_aload_n hx hb d_N_office_95 rfl (lv_at hl 1 rfl) ?_
            refine va_get (D := D) (C := R_N) (T := F_N) (N := 25) hx hb htw uw_N hown hK hP 0 rfl rfl 14 (by decide) (htw _ k_N_37) (fun _ h9 => h9) rfl d_N_office_96 ?_
            refine lv_iload_n hx hb d_N_office_99 rfl (lv_at hl 2 rfl) ?_
            refine ar_ld hx hb hK hP 11 2 rfl rfl hi20 (by decide) d_N_office_100 ?_
            refine lv_if_lt (tgt := 109) hx hb d_N_office_101 (by decide) (fun c12 => ?_) (fun c12 => ?_)
            · refine lv_bipush (v := 8) hx hb d_N_office_109 (by decide) ?_
              refine lv_goto (tgt := 115) hx hb d_N_office_111 (by decide) ?_
              refine lv_iadd hx hb d_N_office_115 ?_
              refine lv_istore_n (lv' := [(3, .int ((0 + ((2 * (F 17 i)) + (4 * (F 18 i)))) + 8)), (0, .ref r), (1, .int (nI i)), (2, .int y)]) hx hb d_N_office_116 rfl hl (by decide) rfl (fun ls hl => ?_)
              refine lv_iload_n hx hb d_N_office_117 rfl (lv_at hl 0 rfl) ?_
              subst hAe
              have e_S : sp_of (off, nm, ng, now, F, R) (nI i) y = (0, ((0 + ((2 * (F 17 i)) + (4 * (F 18 i)))) + 8)) := by simp only [sp_of, hcl]; rw [if_pos ⟨hix, b6⟩]; simp only [bt_I]; rcases m_17 hMi with q17 | q17 <;> rcases m_18 hMi with q18 | q18 <;> first | (rw [if_neg (fun q => c7 q.symm), if_neg (fun q => q.2 q17), if_neg (fun q => q.2 q18), if_pos c11.symm, if_neg (fun q => q.2 ((n_1 hMi.2.2.2.2.2.2.2.2.1).mp c12)), q17, q18]; rfl) | (rw [if_neg (fun q => c7 q.symm), if_neg (fun q => q.2 q17), if_pos ⟨c8.symm, by rw [q18]; decide⟩, if_pos c11.symm, if_neg (fun q => q.2 ((n_1 hMi.2.2.2.2.2.2.2.2.1).mp c12)), q17, q18]; rfl) | (rw [if_neg (fun q => c7 q.symm), if_pos ⟨c8.symm, by rw [q17]; decide⟩, if_neg (fun q => q.2 q18), if_pos c11.symm, if_neg (fun q => q.2 ((n_1 hMi.2.2.2.2.2.2.2.2.1).mp c12)), q17, q18]; rfl) | (rw [if_neg (fun q => c7 q.symm), if_pos ⟨c8.symm, by rw [q17]; decide⟩, if_pos ⟨c8.symm, by rw [q18]; decide⟩, if_pos c11.symm, if_neg (fun q => q.2 ((n_1 hMi.2.2.2.2.2.2.2.2.1).mp c12)), q17, q18]; rfl)
              exact W.iret (v := ((0 + ((2 * (F 17 i)) + (4 * (F 18 i)))) + 8)) hx hb hr (fun t ht hW => ⟨⟨_, (), rfl, fun _ => by rw [e_S], by rw [ht, e_S]; exact hP, by rw [e_S]; exact hD⟩, hS.F ht⟩) hS.2.2 d_N_office_118
            · refine lv_bipush (v := 24) hx hb d_N_office_104 (by decide) ?_
              refine lv_goto (tgt := 115) hx hb d_N_office_106 (by decide) ?_
              refine lv_iadd hx hb d_N_office_115 ?_
              refine lv_istore_n (lv' := [(3, .int ((0 + ((2 * (F 17 i)) + (4 * (F 18 i)))) + 24)), (0, .ref r), (1, .int (nI i)), (2, .int y)]) hx hb d_N_office_116 rfl hl (by decide) rfl (fun ls hl => ?_)
              refine lv_iload_n hx hb d_N_office_117 rfl (lv_at hl 0 rfl) ?_
              subst hAe
              have e_S : sp_of (off, nm, ng, now, F, R) (nI i) y = (0, ((0 + ((2 * (F 17 i)) + (4 * (F 18 i)))) + 24)) := by simp only [sp_of, hcl]; rw [if_pos ⟨hix, b6⟩]; simp only [bt_I]; rcases m_17 hMi with q17 | q17 <;> rcases m_18 hMi with q18 | q18 <;> first | (rw [if_neg (fun q => c7 q.symm), if_neg (fun q => q.2 q17), if_neg (fun q => q.2 q18), if_pos c11.symm, if_pos ⟨c11.symm, fun q => c12 ((n_1 hMi.2.2.2.2.2.2.2.2.1).mpr q)⟩, q17, q18]; rfl) | (rw [if_neg (fun q => c7 q.symm), if_neg (fun q => q.2 q17), if_pos ⟨c8.symm, by rw [q18]; decide⟩, if_pos c11.symm, if_pos ⟨c11.symm, fun q => c12 ((n_1 hMi.2.2.2.2.2.2.2.2.1).mpr q)⟩, q17, q18]; rfl) | (rw [if_neg (fun q => c7 q.symm), if_pos ⟨c8.symm, by rw [q17]; decide⟩, if_neg (fun q => q.2 q18), if_pos c11.symm, if_pos ⟨c11.symm, fun q => c12 ((n_1 hMi.2.2.2.2.2.2.2.2.1).mpr q)⟩, q17, q18]; rfl) | (rw [if_neg (fun q => c7 q.symm), if_pos ⟨c8.symm, by rw [q17]; decide⟩, if_pos ⟨c8.symm, by rw [q18]; decide⟩, if_pos c11.symm, if_pos ⟨c11.symm, fun q => c12 ((n_1 hMi.2.2.2.2.2.2.2.2.1).mpr q)⟩, q17, q18]; rfl)
              exact W.iret (v := ((0 + ((2 * (F 17 i)) + (4 * (F 18 i)))) + 24)) hx hb hr (fun t ht hW => ⟨⟨_, (), rfl, fun _ => by rw [e_S], by rw [ht, e_S]; exact hP, by rw [e_S]; exact hD⟩, hS.F ht⟩) hS.2.2 d_N_office_118
      · refine lv_iconst (v := 1) hx hb d_N_office_44 (by decide) ?_
        refine lv_goto (tgt := 49) hx hb d_N_office_45 (by decide) ?_
        refine lv_istore_n (lv' := [(3, .int 1), (0, .ref r), (1, .int (nI i)), (2, .int y)]) hx hb d_N_office_49 rfl hl (by decide) rfl (fun ls hl => ?_)
        refine lv_iload_n hx hb d_N_office_50 rfl (lv_at hl 0 rfl) ?_
        refine lv_aload_n hx hb d_N_office_51 rfl (lv_at hl 1 rfl) ?_
        refine va_get (D := D) (C := R_N) (T := F_N) (N := 25) hx hb htw uw_N hown hK hP 0 rfl rfl 6 (by decide) (htw _ k_N_13) (fun _ h9 => h9) rfl d_N_office_52 ?_
        refine lv_iload_n hx hb d_N_office_55 rfl (lv_at hl 2 rfl) ?_
        refine ar_ld hx hb hK hP 3 2 rfl rfl hi20 (by decide) d_N_office_56 ?_
        refine lv_iload_n hx hb d_N_office_57 rfl (lv_at hl 3 rfl) ?_
        refine lv_icmp_ne (tgt := 81) hx hb d_N_office_58 (by decide) (fun c13 => ?_) (fun c13 => ?_)
        · refine lv_iconst (v := 0) hx hb d_N_office_81 (by decide) ?_
          refine lv_iadd hx hb d_N_office_82 ?_
          refine lv_istore_n (lv' := [(3, .int (1 + 0)), (0, .ref r), (1, .int (nI i)), (2, .int y)]) hx hb d_N_office_83 rfl hl (by decide) rfl (fun ls hl => ?_)
          refine lv_iload_n hx hb d_N_office_84 rfl (lv_at hl 0 rfl) ?_
          refine lv_aload_n hx hb d_N_office_85 rfl (lv_at hl 1 rfl) ?_
          refine va_get (D := D) (C := R_N) (T := F_N) (N := 25) hx hb htw uw_N hown hK hP 0 rfl rfl 11 (by decide) (htw _ k_N_28) (fun _ h9 => h9) rfl d_N_office_86 ?_
          refine lv_iload_n hx hb d_N_office_89 rfl (lv_at hl 2 rfl) ?_
          refine ar_ld hx hb hK hP 8 2 rfl rfl hi20 (by decide) d_N_office_90 ?_
          refine lv_iload_n hx hb d_N_office_91 rfl (lv_at hl 3 rfl) ?_
          refine lv_icmp_ne (tgt := 114) hx hb d_N_office_92 (by decide) (fun c14 => ?_) (fun c14 => ?_)
          · refine lv_iconst (v := 0) hx hb d_N_office_114 (by decide) ?_
            refine lv_iadd hx hb d_N_office_115 ?_
            refine lv_istore_n (lv' := [(3, .int ((1 + 0) + 0)), (0, .ref r), (1, .int (nI i)), (2, .int y)]) hx hb d_N_office_116 rfl hl (by decide) rfl (fun ls hl => ?_)
            refine lv_iload_n hx hb d_N_office_117 rfl (lv_at hl 0 rfl) ?_
            subst hAe
            have e_S : sp_of (off, nm, ng, now, F, R) (nI i) y = (0, ((1 + 0) + 0)) := by simp only [sp_of, hcl]; rw [if_pos ⟨hix, b6⟩]; simp only [bt_I]; rw [if_pos c7.symm, if_neg (fun q => c13 q.1.symm), if_neg (fun q => c13 q.1.symm), if_neg (fun q => c14 q.symm), if_neg (fun q => c14 q.1.symm)]; rfl
            exact W.iret (v := ((1 + 0) + 0)) hx hb hr (fun t ht hW => ⟨⟨_, (), rfl, fun _ => by rw [e_S], by rw [ht, e_S]; exact hP, by rw [e_S]; exact hD⟩, hS.F ht⟩) hS.2.2 d_N_office_118
          · refine lv_aload_n hx hb d_N_office_95 rfl (lv_at hl 1 rfl) ?_
            refine va_get (D := D) (C := R_N) (T := F_N) (N := 25) hx hb htw uw_N hown hK hP 0 rfl rfl 14 (by decide) (htw _ k_N_37) (fun _ h9 => h9) rfl d_N_office_96 ?_
            refine lv_iload_n hx hb d_N_office_99 rfl (lv_at hl 2 rfl) ?_
            refine ar_ld hx hb hK hP 11 2 rfl rfl hi20 (by decide) d_N_office_100 ?_
            refine lv_if_lt (tgt := 109) hx hb d_N_office_101 (by decide) (fun c15 => ?_) (fun c15 => ?_)
            · refine lv_bipush (v := 8) hx hb d_N_office_109 (by decide) ?_
              refine lv_goto (tgt := 115) hx hb d_N_office_111 (by decide) ?_
              refine lv_iadd hx hb d_N_office_115 ?_
              refine lv_istore_n (lv' := [(3, .int ((1 + 0) + 8)), (0, .ref r), (1, .int (nI i)), (2, .int y)]) hx hb d_N_office_116 rfl hl (by decide) rfl (fun ls hl => ?_)
              refine lv_iload_n hx hb d_N_office_117 rfl (lv_at hl 0 rfl) ?_
              subst hAe
              have e_S : sp_of (off, nm, ng, now, F, R) (nI i) y = (0, ((1 + 0) + 8)) := by simp only [sp_of, hcl]; rw [if_pos ⟨hix, b6⟩]; simp only [bt_I]; rw [if_pos c7.symm, if_neg (fun q => c13 q.1.symm), if_neg (fun q => c13 q.1.symm), if_pos c14.symm, if_neg (fun q => q.2 ((n_1 hMi.2.2.2.2.2.2.2.2.1).mp c15))]; rfl
              exact W.iret (v := ((1 + 0) + 8)) hx hb hr (fun t ht hW => ⟨⟨_, (), rfl, fun _ => by rw [e_S], by rw [ht, e_S]; exact hP, by rw [e_S]; exact hD⟩, hS.F ht⟩) hS.2.2 d_N_office_118
            · refine lv_bipush (v := 24) hx hb d_N_office_104 (by decide) ?_
              refine lv_goto (tgt := 115) hx hb d_N_office_106 (by decide) ?_
              refine lv_iadd hx hb d_N_office_115 ?_
              refine lv_istore_n (lv' := [(3, .int ((1 + 0) + 24)), (0, .ref r), (1, .int (nI i)), (2, .int y)]) hx hb d_N_office_116 rfl hl (by decide) rfl (fun ls hl => ?_)
              refine lv_iload_n hx hb d_N_office_117 rfl (lv_at hl 0 rfl) ?_
              subst hAe
              have e_S : sp_of (off, nm, ng, now, F, R) (nI i) y = (0, ((1 + 0) + 24)) := by simp only [sp_of, hcl]; rw [if_pos ⟨hix, b6⟩]; simp only [bt_I]; rw [if_pos c7.symm, if_neg (fun q => c13 q.1.symm), if_neg (fun q => c13 q.1.symm), if_pos c14.symm, if_pos ⟨c14.symm, fun q => c15 ((n_1 hMi.2.2.2.2.2.2.2.2.1).mpr q)⟩]; rfl
              exact W.iret (v := ((1 + 0) + 24)) hx hb hr (fun t ht hW => ⟨⟨_, (), rfl, fun _ => by rw [e_S], by rw [ht, e_S]; exact hP, by rw [e_S]; exact hD⟩, hS.F ht⟩) hS.2.2 d_N_office_118
        · refine lv_iconst (v := 2) hx hb d_N_office_61 (by decide) ?_
          refine lv_aload_n hx hb d_N_office_62 rfl (lv_at hl 1 rfl) ?_
          refine va_get (D := D) (C := R_N) (T := F_N) (N := 25) hx hb htw uw_N hown hK hP 0 rfl rfl 22 (by decide) (htw _ k_N_61) (fun _ h9 => h9) rfl d_N_office_63 ?_
          refine lv_iload_n hx hb d_N_office_66 rfl (lv_at hl 2 rfl) ?_
          refine ar_ld hx hb hK hP 19 2 rfl rfl hi20 (by decide) d_N_office_67 ?_
          refine lv_imul hx hb d_N_office_68 ?_
          refine lv_iconst (v := 4) hx hb d_N_office_69 (by decide) ?_
          refine lv_aload_n hx hb d_N_office_70 rfl (lv_at hl 1 rfl) ?_
          refine va_get (D := D) (C := R_N) (T := F_N) (N := 25) hx hb htw uw_N hown hK hP 0 rfl rfl 23 (by decide) (htw _ k_N_64) (fun _ h9 => h9) rfl d_N_office_71 ?_
          refine lv_iload_n hx hb d_N_office_74 rfl (lv_at hl 2 rfl) ?_
          refine ar_ld hx hb hK hP 20 2 rfl rfl hi20 (by decide) d_N_office_75 ?_
          refine lv_imul hx hb d_N_office_76 ?_
          refine lv_iadd hx hb d_N_office_77 ?_
          refine lv_goto (tgt := 82) hx hb d_N_office_78 (by decide) ?_
          refine lv_iadd hx hb d_N_office_82 ?_
          refine lv_istore_n (lv' := [(3, .int (1 + ((2 * (F 17 i)) + (4 * (F 18 i))))), (0, .ref r), (1, .int (nI i)), (2, .int y)]) hx hb d_N_office_83 rfl hl (by decide) rfl (fun ls hl => ?_)
          refine lv_iload_n hx hb d_N_office_84 rfl (lv_at hl 0 rfl) ?_
          refine lv_aload_n hx hb d_N_office_85 rfl (lv_at hl 1 rfl) ?_
          refine va_get (D := D) (C := R_N) (T := F_N) (N := 25) hx hb htw uw_N hown hK hP 0 rfl rfl 11 (by decide) (htw _ k_N_28) (fun _ h9 => h9) rfl d_N_office_86 ?_
          refine lv_iload_n hx hb d_N_office_89 rfl (lv_at hl 2 rfl) ?_
          refine ar_ld hx hb hK hP 8 2 rfl rfl hi20 (by decide) d_N_office_90 ?_
          refine lv_iload_n hx hb d_N_office_91 rfl (lv_at hl 3 rfl) ?_
          refine lv_icmp_ne (tgt := 114) hx hb d_N_office_92 (by decide) (fun c16 => ?_) (fun c16 => ?_)
          · refine lv_iconst (v := 0) hx hb d_N_office_114 (by decide) ?_
            refine lv_iadd hx hb d_N_office_115 ?_
            refine lv_istore_n (lv' := [(3, .int ((1 + ((2 * (F 17 i)) + (4 * (F 18 i)))) + 0)), (0, .ref r), (1, .int (nI i)), (2, .int y)]) hx hb d_N_office_116 rfl hl (by decide) rfl (fun ls hl => ?_)
            refine lv_iload_n hx hb d_N_office_117 rfl (lv_at hl 0 rfl) ?_
            subst hAe
            have e_S : sp_of (off, nm, ng, now, F, R) (nI i) y = (0, ((1 + ((2 * (F 17 i)) + (4 * (F 18 i)))) + 0)) := by simp only [sp_of, hcl]; rw [if_pos ⟨hix, b6⟩]; simp only [bt_I]; rcases m_17 hMi with q17 | q17 <;> rcases m_18 hMi with q18 | q18 <;> first | (rw [if_pos c7.symm, if_neg (fun q => q.2 q17), if_neg (fun q => q.2 q18), if_neg (fun q => c16 q.symm), if_neg (fun q => c16 q.1.symm), q17, q18]; rfl) | (rw [if_pos c7.symm, if_neg (fun q => q.2 q17), if_pos ⟨c13.symm, by rw [q18]; decide⟩, if_neg (fun q => c16 q.symm), if_neg (fun q => c16 q.1.symm), q17, q18]; rfl) | (rw [if_pos c7.symm, if_pos ⟨c13.symm, by rw [q17]; decide⟩, if_neg (fun q => q.2 q18), if_neg (fun q => c16 q.symm), if_neg (fun q => c16 q.1.symm), q17, q18]; rfl) | (rw [if_pos c7.symm, if_pos ⟨c13.symm, by rw [q17]; decide⟩, if_pos ⟨c13.symm, by rw [q18]; decide⟩, if_neg (fun q => c16 q.symm), if_neg (fun q => c16 q.1.symm), q17, q18]; rfl)
            exact W.iret (v := ((1 + ((2 * (F 17 i)) + (4 * (F 18 i)))) + 0)) hx hb hr (fun t ht hW => ⟨⟨_, (), rfl, fun _ => by rw [e_S], by rw [ht, e_S]; exact hP, by rw [e_S]; exact hD⟩, hS.F ht⟩) hS.2.2 d_N_office_118
          · refine lv_aload_n hx hb d_N_office_95 rfl (lv_at hl 1 rfl) ?_
            refine va_get (D := D) (C := R_N) (T := F_N) (N := 25) hx hb htw uw_N hown hK hP 0 rfl rfl 14 (by decide) (htw _ k_N_37) (fun _ h9 => h9) rfl d_N_office_96 ?_
            refine lv_iload_n hx hb d_N_office_99 rfl (lv_at hl 2 rfl) ?_
            refine ar_ld hx hb hK hP 11 2 rfl rfl hi20 (by decide) d_N_office_100 ?_
            refine lv_if_lt (tgt := 109) hx hb d_N_office_101 (by decide) (fun c17 => ?_) (fun c17 => ?_)
            · refine lv_bipush (v := 8) hx hb d_N_office_109 (by decide) ?_
              refine lv_goto (tgt := 115) hx hb d_N_office_111 (by decide) ?_
              refine lv_iadd hx hb d_N_office_115 ?_
              refine lv_istore_n (lv' := [(3, .int ((1 + ((2 * (F 17 i)) + (4 * (F 18 i)))) + 8)), (0, .ref r), (1, .int (nI i)), (2, .int y)]) hx hb d_N_office_116 rfl hl (by decide) rfl (fun ls hl => ?_)
              refine lv_iload_n hx hb d_N_office_117 rfl (lv_at hl 0 rfl) ?_
              subst hAe
              have e_S : sp_of (off, nm, ng, now, F, R) (nI i) y = (0, ((1 + ((2 * (F 17 i)) + (4 * (F 18 i)))) + 8)) := by simp only [sp_of, hcl]; rw [if_pos ⟨hix, b6⟩]; simp only [bt_I]; rcases m_17 hMi with q17 | q17 <;> rcases m_18 hMi with q18 | q18 <;> first | (rw [if_pos c7.symm, if_neg (fun q => q.2 q17), if_neg (fun q => q.2 q18), if_pos c16.symm, if_neg (fun q => q.2 ((n_1 hMi.2.2.2.2.2.2.2.2.1).mp c17)), q17, q18]; rfl) | (rw [if_pos c7.symm, if_neg (fun q => q.2 q17), if_pos ⟨c13.symm, by rw [q18]; decide⟩, if_pos c16.symm, if_neg (fun q => q.2 ((n_1 hMi.2.2.2.2.2.2.2.2.1).mp c17)), q17, q18]; rfl) | (rw [if_pos c7.symm, if_pos ⟨c13.symm, by rw [q17]; decide⟩, if_neg (fun q => q.2 q18), if_pos c16.symm, if_neg (fun q => q.2 ((n_1 hMi.2.2.2.2.2.2.2.2.1).mp c17)), q17, q18]; rfl) | (rw [if_pos c7.symm, if_pos ⟨c13.symm, by rw [q17]; decide⟩, if_pos ⟨c13.symm, by rw [q18]; decide⟩, if_pos c16.symm, if_neg (fun q => q.2 ((n_1 hMi.2.2.2.2.2.2.2.2.1).mp c17)), q17, q18]; rfl)
              exact W.iret (v := ((1 + ((2 * (F 17 i)) + (4 * (F 18 i)))) + 8)) hx hb hr (fun t ht hW => ⟨⟨_, (), rfl, fun _ => by rw [e_S], by rw [ht, e_S]; exact hP, by rw [e_S]; exact hD⟩, hS.F ht⟩) hS.2.2 d_N_office_118
            · refine lv_bipush (v := 24) hx hb d_N_office_104 (by decide) ?_
              refine lv_goto (tgt := 115) hx hb d_N_office_106 (by decide) ?_
              refine lv_iadd hx hb d_N_office_115 ?_
              refine lv_istore_n (lv' := [(3, .int ((1 + ((2 * (F 17 i)) + (4 * (F 18 i)))) + 24)), (0, .ref r), (1, .int (nI i)), (2, .int y)]) hx hb d_N_office_116 rfl hl (by decide) rfl (fun ls hl => ?_)
              refine lv_iload_n hx hb d_N_office_117 rfl (lv_at hl 0 rfl) ?_
              subst hAe
              have e_S : sp_of (off, nm, ng, now, F, R) (nI i) y = (0, ((1 + ((2 * (F 17 i)) + (4 * (F 18 i)))) + 24)) := by simp only [sp_of, hcl]; rw [if_pos ⟨hix, b6⟩]; simp only [bt_I]; rcases m_17 hMi with q17 | q17 <;> rcases m_18 hMi with q18 | q18 <;> first | (rw [if_pos c7.symm, if_neg (fun q => q.2 q17), if_neg (fun q => q.2 q18), if_pos c16.symm, if_pos ⟨c16.symm, fun q => c17 ((n_1 hMi.2.2.2.2.2.2.2.2.1).mpr q)⟩, q17, q18]; rfl) | (rw [if_pos c7.symm, if_neg (fun q => q.2 q17), if_pos ⟨c13.symm, by rw [q18]; decide⟩, if_pos c16.symm, if_pos ⟨c16.symm, fun q => c17 ((n_1 hMi.2.2.2.2.2.2.2.2.1).mpr q)⟩, q17, q18]; rfl) | (rw [if_pos c7.symm, if_pos ⟨c13.symm, by rw [q17]; decide⟩, if_neg (fun q => q.2 q18), if_pos c16.symm, if_pos ⟨c16.symm, fun q => c17 ((n_1 hMi.2.2.2.2.2.2.2.2.1).mpr q)⟩, q17, q18]; rfl) | (rw [if_pos c7.symm, if_pos ⟨c13.symm, by rw [q17]; decide⟩, if_pos ⟨c13.symm, by rw [q18]; decide⟩, if_pos c16.symm, if_pos ⟨c16.symm, fun q => c17 ((n_1 hMi.2.2.2.2.2.2.2.2.1).mpr q)⟩, q17, q18]; rfl)
              exact W.iret (v := ((1 + ((2 * (F 17 i)) + (4 * (F 18 i)))) + 24)) hx hb hr (fun t ht hW => ⟨⟨_, (), rfl, fun _ => by rw [e_S], by rw [ht, e_S]; exact hP, by rw [e_S]; exact hD⟩, hS.F ht⟩) hS.2.2 d_N_office_118
    · refine lv_if_eq (tgt := 21) hx hb d_N_office_14 (by decide) (fun _ => ?_) (fun q9 => absurd rfl q9)
      refine lv_iconst (v := 1) hx hb d_N_office_21 (by decide) ?_
      refine va_put (D := D) (ci := 3) (v := .int 1) (ty := .int) (C := R_N) (T := F_N) (N := 25) hx hb htw uw_N ft_N tk_N n_N hown hK hP hD hS 0 rfl rfl 0 (by decide) (htw _ k_N_74) (fun _ h9 => h9) rfl (by decide +kernel) rfl rfl (Nat.le_of_ble_eq_true rfl) d_N_office_22 (fun H locs hP hD hS => ?_)
      have hP : va_P D cl_L (ws_N cI r rr ra 1 Sr (off, nm, ng, now, F, R)) H := hP
      have hD : va_D A (ws_N cI r rr ra 1 Sr (off, nm, ng, now, F, R)) := hD
      refine lv_aload_n hx hb d_N_office_25 rfl (lv_at hl 0 rfl) ?_
      refine va_get (D := D) (C := R_N) (T := F_N) (N := 25) hx hb htw uw_N hown hK hP 0 rfl rfl 0 (by decide) (htw _ k_N_74) (fun _ h9 => h9) rfl d_N_office_26 ?_
      refine lv_if_le (tgt := 34) hx hb d_N_office_29 (by decide) (fun q9 => absurd q9 (by decide)) (fun _ => ?_)
      refine lv_iconst (v := 0) hx hb d_N_office_32 (by decide) ?_
      subst hAe
      have e_S : sp_of (off, nm, ng, now, F, R) (nI i) y = (1, 0) := by simp only [sp_of]; rw [if_neg (fun q => b6 q.2)]
      exact W.iret (v := 0) hx hb hr (fun t ht hW => ⟨⟨_, (), rfl, fun _ => by rw [e_S], by rw [ht, e_S]; exact hP, by rw [e_S]; exact hD⟩, hS.F ht⟩) hS.2.2 d_N_office_33
  · refine lv_if_eq (tgt := 21) hx hb d_N_office_6 (by decide) (fun _ => ?_) (fun q9 => absurd rfl q9)
    refine lv_iconst (v := 1) hx hb d_N_office_21 (by decide) ?_
    refine va_put (D := D) (ci := 3) (v := .int 1) (ty := .int) (C := R_N) (T := F_N) (N := 25) hx hb htw uw_N ft_N tk_N n_N hown hK hP hD hS 0 rfl rfl 0 (by decide) (htw _ k_N_74) (fun _ h9 => h9) rfl (by decide +kernel) rfl rfl (Nat.le_of_ble_eq_true rfl) d_N_office_22 (fun H locs hP hD hS => ?_)
    have hP : va_P D cl_L (ws_N cI r rr ra 1 Sr (off, nm, ng, now, F, R)) H := hP
    have hD : va_D A (ws_N cI r rr ra 1 Sr (off, nm, ng, now, F, R)) := hD
    refine lv_aload_n hx hb d_N_office_25 rfl (lv_at hl 0 rfl) ?_
    refine va_get (D := D) (C := R_N) (T := F_N) (N := 25) hx hb htw uw_N hown hK hP 0 rfl rfl 0 (by decide) (htw _ k_N_74) (fun _ h9 => h9) rfl d_N_office_26 ?_
    refine lv_if_le (tgt := 34) hx hb d_N_office_29 (by decide) (fun q9 => absurd q9 (by decide)) (fun _ => ?_)
    refine lv_iconst (v := 0) hx hb d_N_office_32 (by decide) ?_
    subst hAe
    have e_S : sp_of (off, nm, ng, now, F, R) x y = (1, 0) := by simp only [sp_of]; rw [if_neg (fun q => b3 q.1)]
    exact W.iret (v := 0) hx hb hr (fun t ht hW => ⟨⟨_, (), rfl, fun _ => by rw [e_S], by rw [ht, e_S]; exact hP, by rw [e_S]; exact hD⟩, hS.F ht⟩) hS.2.2 d_N_office_33
set_option maxHeartbeats 4000000 in
set_option maxRecDepth 100000 in
theorem t_N_message (l : Launch) (D : va_G) (cM cG cI cJ : ClassId) (r rr : Nat) (ra : Nat → Nat) (th : Int32) (Sr : Nat → Int32) (off : Int32) (nm ng : Nat) (now : Int32) (F : Nat → Nat → Int32) (R : Nat → Int32) (sz : Nat) (x : Int32) (y : Int32) (t9 : Nat) (hI : iv_S t9 (off, nm, ng, now, F, R)) (hSr : sr_P Sr (off, nm, ng, now, F, R)) : Met l y_N_message (Cond.code y_N_message c_N_message 3 (some .int) :: tw_L) ({ frames := 1, cells := 0, slots := 0, locals := 22 } : Room) (mu_P D (ws_N cI r rr ra th Sr (off, nm, ng, now, F, R)) sz (fun _ _ => True) (yt_P D cM cG cI cJ) [.ref r, .int x, .int y]) (va_Qi (fun (v : Int32) (_ : Unit) => (sp_me (off, nm, ng, now, F, R) x y).1 = 0 → v = (sp_me (off, nm, ng, now, F, R) x y).2) (mu_B D (ws_N cI r rr ra th Sr (off, nm, ng, now, F, R)) sz (fun _ => ws_N cI r rr ra (sp_me (off, nm, ng, now, F, R) x y).1 Sr (off, nm, ng, now, F, R))) (va_A (ws_N cI r rr ra th Sr (off, nm, ng, now, F, R)) sz)) 0 0 (va_A (ws_N cI r rr ra th Sr (off, nm, ng, now, F, R)) sz) := by
  refine Met.ofW (cc := c_N_message) (maxL := 3) (ret := (some .int)) (by decide) rfl ?_
  intro p e s m args below meth c s₁ B hml hv
  obtain ⟨rfl, hsz, hP, hD0, hX, hY⟩ := hv
  have hx := B.exec
  have hb := B.bytes
  have hr := B.returns
  have htw : ∀ w ∈ tw_L, w.before _ s = true := fun w hw => atoms_spec (ws := (Cond.code y_N_message c_N_message 3 (some .int) :: tw_L)) B.pre w (List.mem_cons_of_mem _ hw)
  have hown : s.vm.findClass R_N = some m.cls := findClass_of_methodNamed B.named
  have hlocks := B.notSynchronized
  have hC : CallFix p m c c_N_message 3 s _ tw_L R_N := ⟨hx, hb, hml, hown, htw⟩
  have hK := hY.1
  have hl := lv_entry ([.ref r, .int x, .int y]) (n := 3) (Nat.le_of_ble_eq_true rfl)
  rw [lg_entry_eq]
  generalize (lg_sl ([.ref r, .int x, .int y]) ++ List.replicate (3 - (lg_sl ([.ref r, .int x, .int y])).length) Slot.unset).toArray = ls at hl ⊢
  have hl : lv_has ls 3 [(0, .ref r), (1, .int x), (2, .int y)] := hl
  subst hsz
  obtain ⟨A, hAe⟩ : ∃ A : Nat → Prop, A = va_A (ws_N cI r rr ra th Sr (off, nm, ng, now, F, R)) s.heap.size := ⟨_, rfl⟩
  have hD : va_D A (ws_N cI r rr ra th Sr (off, nm, ng, now, F, R)) := by rw [hAe]; exact hD0.self
  have hA : ∀ q : Nat, s.heap.size ≤ q → A q := fun q h => by rw [hAe]; exact Or.inr h
  have hS : va_S A s.heap s.heap [] := va_S.rf
  obtain ⟨hof, hn20, hnow, ht4, hM, hZ, hG, hcn⟩ := id hI
  have hg200 : ng ≤ 200 := by have := cn_0 hM hcn; omega
  refine lv_aload_n hx hb d_N_message_0 rfl (lv_at hl 0 rfl) ?_
  refine lv_iload_n hx hb d_N_message_1 rfl (lv_at hl 1 rfl) ?_
  refine lv_if_lt (tgt := 27) hx hb d_N_message_2 (by decide) (fun c1 => ?_) (fun c1 => ?_)
  · refine lv_iconst (v := 1) hx hb d_N_message_27 (by decide) ?_
    refine va_put (D := D) (ci := 3) (v := .int 1) (ty := .int) (C := R_N) (T := F_N) (N := 25) hx hb htw uw_N ft_N tk_N n_N hown hK hP hD hS 0 rfl rfl 0 (by decide) (htw _ k_N_74) (fun _ h9 => h9) rfl (by decide +kernel) rfl rfl (Nat.le_of_ble_eq_true rfl) d_N_message_28 (fun H locs hP hD hS => ?_)
    have hP : va_P D cl_L (ws_N cI r rr ra 1 Sr (off, nm, ng, now, F, R)) H := hP
    have hD : va_D A (ws_N cI r rr ra 1 Sr (off, nm, ng, now, F, R)) := hD
    refine lv_aload_n hx hb d_N_message_31 rfl (lv_at hl 0 rfl) ?_
    refine va_get (D := D) (C := R_N) (T := F_N) (N := 25) hx hb htw uw_N hown hK hP 0 rfl rfl 0 (by decide) (htw _ k_N_74) (fun _ h9 => h9) rfl d_N_message_32 ?_
    refine lv_if_le (tgt := 42) hx hb d_N_message_35 (by decide) (fun q9 => absurd q9 (by decide)) (fun _ => ?_)
    refine lv_iconst (v := 0) hx hb d_N_message_38 (by decide) ?_
    refine lv_goto (tgt := 53) hx hb d_N_message_39 (by decide) ?_
    subst hAe
    have e_S : sp_me (off, nm, ng, now, F, R) x y = (1, 0) := by simp only [sp_me]; rw [if_neg (fun q => q.1.1 c1)]
    exact W.iret (v := 0) hx hb hr (fun t ht hW => ⟨⟨_, (), rfl, fun _ => by rw [e_S], by rw [ht, e_S]; exact hP, by rw [e_S]; exact hD⟩, hS.F ht⟩) hS.2.2 d_N_message_53
  · refine lv_iload_n hx hb d_N_message_5 rfl (lv_at hl 1 rfl) ?_
    refine lv_aload_n hx hb d_N_message_6 rfl (lv_at hl 0 rfl) ?_
    refine va_get (D := D) (C := R_N) (T := F_N) (N := 25) hx hb htw uw_N hown hK hP 0 rfl rfl 3 (by decide) (htw _ k_N_80) (fun _ h9 => h9) rfl d_N_message_7 ?_
    refine lv_icmp_ge (tgt := 27) hx hb d_N_message_10 (by decide) (fun c2 => ?_) (fun c2 => ?_)
    · refine lv_iconst (v := 1) hx hb d_N_message_27 (by decide) ?_
      refine va_put (D := D) (ci := 3) (v := .int 1) (ty := .int) (C := R_N) (T := F_N) (N := 25) hx hb htw uw_N ft_N tk_N n_N hown hK hP hD hS 0 rfl rfl 0 (by decide) (htw _ k_N_74) (fun _ h9 => h9) rfl (by decide +kernel) rfl rfl (Nat.le_of_ble_eq_true rfl) d_N_message_28 (fun H locs hP hD hS => ?_)
      have hP : va_P D cl_L (ws_N cI r rr ra 1 Sr (off, nm, ng, now, F, R)) H := hP
      have hD : va_D A (ws_N cI r rr ra 1 Sr (off, nm, ng, now, F, R)) := hD
      refine lv_aload_n hx hb d_N_message_31 rfl (lv_at hl 0 rfl) ?_
      refine va_get (D := D) (C := R_N) (T := F_N) (N := 25) hx hb htw uw_N hown hK hP 0 rfl rfl 0 (by decide) (htw _ k_N_74) (fun _ h9 => h9) rfl d_N_message_32 ?_
      refine lv_if_le (tgt := 42) hx hb d_N_message_35 (by decide) (fun q9 => absurd q9 (by decide)) (fun _ => ?_)
      refine lv_iconst (v := 0) hx hb d_N_message_38 (by decide) ?_
      refine lv_goto (tgt := 53) hx hb d_N_message_39 (by decide) ?_
      subst hAe
      have e_S : sp_me (off, nm, ng, now, F, R) x y = (1, 0) := by simp only [sp_me]; rw [if_neg (fun q => absurd q.1.2 (Int32.not_lt.mpr c2))]
      exact W.iret (v := 0) hx hb hr (fun t ht hW => ⟨⟨_, (), rfl, fun _ => by rw [e_S], by rw [ht, e_S]; exact hP, by rw [e_S]; exact hD⟩, hS.F ht⟩) hS.2.2 d_N_message_53
    · refine lv_iload_n hx hb d_N_message_13 rfl (lv_at hl 2 rfl) ?_
      refine lv_iconst (v := 0) hx hb d_N_message_14 (by decide) ?_
      refine lv_bipush (v := 6) hx hb d_N_message_15 (by decide) ?_
      refine cp_S (n := 3) [.int y, .int 0, .int 6] hC (t_N_in l D cM cG cI cJ y 0 6) ⟨kc_N_in, kn_N, k_N_90, ks_N_in⟩ (by decide +kernel) ⟨rfl, rfl, Nat.le_of_ble_eq_true rfl, Nat.le_of_ble_eq_true rfl⟩ x_0 (yt_Y D cM cG cI cJ) hY trivial rfl hl.1 rfl (Nat.le_of_ble_eq_true rfl) d_N_message_17 ⟨Nat.le_of_ble_eq_true rfl, Nat.le_of_ble_eq_true rfl⟩ (fun r3 h4 => ?_)
      rcases h4 with ⟨rfl, b5⟩ | ⟨rfl, b5⟩
      · refine lv_if_eq (tgt := 27) hx hb d_N_message_20 (by decide) (fun q9 => absurd q9 (by decide)) (fun _ => ?_)
        have hixj := (show is_ix ng x from ⟨c1, Int32.not_le.mp c2⟩)
        obtain ⟨g, hg, rfl⟩ := ix_of (show ng < 2147483648 by omega) hixj
        have hclj : (nI g).toNatClampNeg = g := nI_clamp (by omega)
        have hwi := b5
        obtain ⟨k, hk6, rfl⟩ := wi_k hwi
        have hclk : (nI k).toNatClampNeg = k := nI_clamp (by omega)
        refine lv_iconst (v := 0) hx hb d_N_message_23 (by decide) ?_
        refine lv_goto (tgt := 28) hx hb d_N_message_24 (by decide) ?_
        refine va_put (D := D) (ci := 3) (v := .int 0) (ty := .int) (C := R_N) (T := F_N) (N := 25) hx hb htw uw_N ft_N tk_N n_N hown hK hP hD hS 0 rfl rfl 0 (by decide) (htw _ k_N_74) (fun _ h9 => h9) rfl (by decide +kernel) rfl rfl (Nat.le_of_ble_eq_true rfl) d_N_message_28 (fun H locs hP hD hS => ?_)
        have hP : va_P D cl_L (ws_N cI r rr ra 0 Sr (off, nm, ng, now, F, R)) H := hP
        have hD : va_D A (ws_N cI r rr ra 0 Sr (off, nm, ng, now, F, R)) := hD
        refine lv_aload_n hx hb d_N_message_31 rfl (lv_at hl 0 rfl) ?_
        refine va_get (D := D) (C := R_N) (T := F_N) (N := 25) hx hb htw uw_N hown hK hP 0 rfl rfl 0 (by decide) (htw _ k_N_74) (fun _ h9 => h9) rfl d_N_message_32 ?_
        refine lv_if_le (tgt := 42) hx hb d_N_message_35 (by decide) (fun _ => ?_) (fun q9 => (q9 (by decide)).elim)
        refine lv_aload_n hx hb d_N_message_42 rfl (lv_at hl 0 rfl) ?_
        refine va_get (D := D) (C := R_N) (T := F_N) (N := 25) hx hb htw uw_N hown hK hP 0 rfl rfl 24 (by decide) (htw _ k_N_67) (fun _ h9 => h9) rfl d_N_message_43 ?_
        refine lv_bipush (v := 7) hx hb d_N_message_46 (by decide) ?_
        refine lv_iload_n hx hb d_N_message_48 rfl (lv_at hl 1 rfl) ?_
        refine lv_imul hx hb d_N_message_49 ?_
        refine sk_as (y := nI (7 * g)) (pk_mul 7 g) ?_
        refine lv_iload_n hx hb d_N_message_50 rfl (lv_at hl 2 rfl) ?_
        refine lv_iadd hx hb d_N_message_51 ?_
        refine sk_as (y := nI (7 * g + k)) (nI_add (7 * g) (k)) ?_
        refine ar_ld hx hb hK hP 1 2 rfl rfl (show 7 * g + k < 2800 by omega) (by decide) d_N_message_52 ?_
        subst hAe
        have e_S : sp_me (off, nm, ng, now, F, R) (nI g) (nI k) = (0, (R (7 * g + k))) := by simp only [sp_me, hclj, hclk]; rw [if_pos ⟨hixj, hwi⟩]
        exact W.iret (v := (R (7 * g + k))) hx hb hr (fun t ht hW => ⟨⟨_, (), rfl, fun _ => by rw [e_S], by rw [ht, e_S]; exact hP, by rw [e_S]; exact hD⟩, hS.F ht⟩) hS.2.2 d_N_message_53
      · refine lv_if_eq (tgt := 27) hx hb d_N_message_20 (by decide) (fun _ => ?_) (fun q9 => absurd rfl q9)
        refine lv_iconst (v := 1) hx hb d_N_message_27 (by decide) ?_
        refine va_put (D := D) (ci := 3) (v := .int 1) (ty := .int) (C := R_N) (T := F_N) (N := 25) hx hb htw uw_N ft_N tk_N n_N hown hK hP hD hS 0 rfl rfl 0 (by decide) (htw _ k_N_74) (fun _ h9 => h9) rfl (by decide +kernel) rfl rfl (Nat.le_of_ble_eq_true rfl) d_N_message_28 (fun H locs hP hD hS => ?_)
        have hP : va_P D cl_L (ws_N cI r rr ra 1 Sr (off, nm, ng, now, F, R)) H := hP
        have hD : va_D A (ws_N cI r rr ra 1 Sr (off, nm, ng, now, F, R)) := hD
        refine lv_aload_n hx hb d_N_message_31 rfl (lv_at hl 0 rfl) ?_
        refine va_get (D := D) (C := R_N) (T := F_N) (N := 25) hx hb htw uw_N hown hK hP 0 rfl rfl 0 (by decide) (htw _ k_N_74) (fun _ h9 => h9) rfl d_N_message_32 ?_
        refine lv_if_le (tgt := 42) hx hb d_N_message_35 (by decide) (fun q9 => absurd q9 (by decide)) (fun _ => ?_)
        refine lv_iconst (v := 0) hx hb d_N_message_38 (by decide) ?_
        refine lv_goto (tgt := 53) hx hb d_N_message_39 (by decide) ?_
        subst hAe
        have e_S : sp_me (off, nm, ng, now, F, R) x y = (1, 0) := by simp only [sp_me]; rw [if_neg (fun q => b5 q.2)]
        exact W.iret (v := 0) hx hb hr (fun t ht hW => ⟨⟨_, (), rfl, fun _ => by rw [e_S], by rw [ht, e_S]; exact hP, by rw [e_S]; exact hD⟩, hS.F ht⟩) hS.2.2 d_N_message_53
