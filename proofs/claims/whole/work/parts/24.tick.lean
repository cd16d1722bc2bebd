theorem ds_mono (nm t : Nat) (x : dy_T) : ∀ n, x.1 ≤ (dy_s nm t n x).1 := by
  intro n
  induction n with
  | zero => exact Nat.le_refl _
  | succ n ih => exact Nat.le_trans ih (dy_mono (nI (t + n + 1)) (dy_s nm t n x) 0 nm (Nat.zero_le _))
theorem tk_x {x : Int32} {t : Nat} (ht : t ≤ 10000) (h : is_wi x (nI t) 10000) : ∃ T : Nat, t ≤ T ∧ T ≤ 10000 ∧ x = nI T := by
  obtain ⟨h1, h2⟩ := h
  rw [i_lt] at h1 h2
  rw [i_nI (by omega)] at h1
  have e : (10000 : Int32).toInt = 10000 := rfl
  rw [e] at h2
  have := i_cl (a := x) (by omega)
  refine ⟨x.toNatClampNeg, by omega, by omega, ?_⟩
  rw [i_eq, i_nI (by omega)]
  omega
theorem nd_v {d : Int32} {u T : Nat} (h1 : (u : Int) < d.toInt) (h2 : d.toInt ≤ T) (hT : T ≤ 10000) : ∃ v : Nat, u < v ∧ v ≤ T ∧ d = nI v := by
  have := i_cl (a := d) (by omega)
  refine ⟨d.toNatClampNeg, by omega, by omega, ?_⟩
  rw [i_eq, i_nI (by omega)]
  omega
theorem tk_r1 {g ng G : Nat} (h0 : ng ≤ g) (h1 : g ≤ G) (h2 : G ≤ 200) : g - ng + (G - g) ≤ 200 := by omega
theorem tk_r2 {g ng G : Nat} (h0 : ng ≤ g) (h1 : g ≤ G) (h2 : G ≤ 200) : 7 * (g - ng) + 7 * (G - g) ≤ 1400 := by omega
theorem tk_w1 {g ng G : Nat} (h0 : ng ≤ g) (h1 : g ≤ G) : g - ng + (G - g) ≤ G - ng := by omega
theorem tk_w2 {g ng G : Nat} (h0 : ng ≤ g) (h1 : g ≤ G) : 7 * (g - ng) + 7 * (G - g) ≤ 7 * (G - ng) := by omega
theorem sz_2 {A : Nat → Prop} : is_X (fun U H => sx_P A U H ∧ sa_P A U H) := fun u U H hW h => ⟨sx_X u U H hW h.1, sa_X u U H hW h.2⟩
theorem ds_v {nm t u v g : Nat} {c : Int32} {F : Nat → Nat → Int32} {R : Nat → Int32} {x : dy_T} (hl : ∀ i, i < nm → 0 ≤ (x.2.2.1 2 i).toInt ∧ (x.2.2.1 2 i).toInt ≤ 10000) (htu : t ≤ u) (huv : u < v) (hv : v ≤ 10000) (hn : ∀ w : Nat, u < w → w < v → ∀ i, i < nm → ¬ is_du (x.2.2.1 2 i) w) (hd : dy_s nm t (u - t) x = (g, c, F, R)) :
    dy_s nm t (v - t) x = ((dy_d (nI v) nm (g, 0, F, R)).1, c + (dy_d (nI v) nm (g, 0, F, R)).2.1, (dy_d (nI v) nm (g, 0, F, R)).2.2.1, (dy_d (nI v) nm (g, 0, F, R)).2.2.2) := by
  have e1 := ds_no hl htu (v - 1) (by omega) (by omega) (fun w h1 h2 => hn w h1 (by omega))
  have e2 : v - t = (v - 1 - t) + 1 := by omega
  rw [e2]
  show dy_d (nI (t + (v - 1 - t) + 1)) nm (dy_s nm t (v - 1 - t) x) = _
  rw [e1, hd, show t + (v - 1 - t) + 1 = v by omega]
  exact dd_add (nI v) g c F R nm
set_option maxHeartbeats 4000000 in
set_option maxRecDepth 100000 in
theorem t_T_tick (l : Launch) (D : va_G) (cM cG cI cJ : ClassId) (o am ag : Nat) (pm pg : Nat → Nat) (off : Int32) (nm ng : Nat) (now : Int32) (F : Nat → Nat → Int32) (R : Nat → Int32) (sz : Nat) (x : Int32) (hl0 : l.stackTraces = false) (t9 : Nat) (hI : iv_S t9 (off, nm, ng, now, F, R)) : vx_Met l y_T_tick (Cond.code y_T_tick c_T_tick 5 (some .int) :: tw_L) ({ frames := 6, cells := 200, slots := 1400, locals := 88 } : Room) (mu_P D (ws_C cM cG o am ag pm pg (off, nm, ng, now, F, R)) sz (fun U H => sx_P (va_A (ws_C cM cG o am ag pm pg (off, nm, ng, now, F, R)) sz) U H ∧ sa_P (va_A (ws_C cM cG o am ag pm pg (off, nm, ng, now, F, R)) sz) U H) (yt_P D cM cG cI cJ) [.ref o, .int x]) (va_Qi (fun (r : Int32) (_ : Nat → Nat) => (sp_ti (off, nm, ng, now, F, R) x).1 = 0 ∧ r = (sp_ti (off, nm, ng, now, F, R) x).2.1) (mu_B D (ws_C cM cG o am ag pm pg (off, nm, ng, now, F, R)) sz (fun pg1 => ws_C cM cG o am ag pm pg1 (sp_ti (off, nm, ng, now, F, R) x).2.2)) (va_A (ws_C cM cG o am ag pm pg (off, nm, ng, now, F, R)) sz)) (vx_X (fun _ : Unit => True) (fun E _ _ => E = "java/lang/IllegalArgumentException" ∧ (sp_ti (off, nm, ng, now, F, R) x).1 = 1) (fun q => sz ≤ q)) 200 1400 (va_A (ws_C cM cG o am ag pm pg (off, nm, ng, now, F, R)) sz) := by
  refine vx_ofW (cc := c_T_tick) (maxL := 5) (ret := (some .int)) (by decide) rfl ?_
  intro p e s m args below meth c s₁ B hml hne hv
  obtain ⟨rfl, hsz, hP, hD0, hX, hY⟩ := hv
  have hx := B.exec
  have hb := B.bytes
  have hr := B.returns
  have htw : ∀ w ∈ tw_L, w.before _ s = true := fun w hw => atoms_spec (ws := (Cond.code y_T_tick c_T_tick 5 (some .int) :: tw_L)) B.pre w (List.mem_cons_of_mem _ hw)
  have hown : s.vm.findClass R_T = some m.cls := findClass_of_methodNamed B.named
  have hlocks := B.notSynchronized
  have hC : CallFix p m c c_T_tick 5 s _ tw_L R_T := ⟨hx, hb, hml, hown, htw⟩
  have hK := hY.1
  have hl := lv_entry ([.ref o, .int x]) (n := 5) (Nat.le_of_ble_eq_true rfl)
  rw [lg_entry_eq]
  generalize (lg_sl ([.ref o, .int x]) ++ List.replicate (5 - (lg_sl ([.ref o, .int x])).length) Slot.unset).toArray = ls at hl ⊢
  have hl : lv_has ls 5 [(0, .ref o), (1, .int x)] := hl
  subst hsz
  obtain ⟨A, hAe⟩ : ∃ A : Nat → Prop, A = va_A (ws_C cM cG o am ag pm pg (off, nm, ng, now, F, R)) s.heap.size := ⟨_, rfl⟩
  have hD : va_D A (ws_C cM cG o am ag pm pg (off, nm, ng, now, F, R)) := by rw [hAe]; exact hD0.self
  have hA : ∀ q : Nat, s.heap.size ≤ q → A q := fun q h => by rw [hAe]; exact Or.inr h
  have hS : va_S A s.heap s.heap [] := va_S.rf
  have hXs : sx_P A s s.heap := by rw [hAe]; exact hX.1
  have hXa : sa_P A s s.heap := by rw [hAe]; exact hX.2
  have hSA : sa_P no_A s s.heap := sa_k hXa hS (fun q h => h.elim)
  obtain ⟨hof, hn20, hnow, ht4, hM, hZ, hG, hcn⟩ := id hI
  refine lv_iload_n hx hb d_T_tick_0 rfl (lv_at hl 1 rfl) ?_
  refine lv_aload_n hx hb d_T_tick_1 rfl (lv_at hl 0 rfl) ?_
  refine va_get (D := D) (C := R_T) (T := F_T) (N := 6) hx hb htw uw_T hown hK hP 0 rfl rfl 5 (by decide) (htw _ k_T_28) (fun _ h9 => h9) rfl d_T_tick_2 ?_
  refine lv_sipush (v := 10000) hx hb d_T_tick_5 (by decide) ?_
  refine cp_S (n := 3) [.int x, .int now, .int 10000] hC (t_T_isWithin l D cM cG cI cJ x now 10000) ⟨kc_T_isWithin, kn_T, k_T_45, ks_T_isWithin⟩ (by decide +kernel) ⟨rfl, rfl, Nat.le_of_ble_eq_true rfl, Nat.le_of_ble_eq_true rfl⟩ x_0 (yt_Y D cM cG cI cJ) hY trivial rfl hl.1 rfl (Nat.le_of_ble_eq_true rfl) d_T_tick_8 ⟨Nat.le_of_ble_eq_true rfl, Nat.le_of_ble_eq_true rfl⟩ (fun r1 h2 => ?_)
  rcases h2 with ⟨rfl, b3⟩ | ⟨rfl, b3⟩
  · refine lv_if_ne (tgt := 24) hx hb d_T_tick_11 (by decide) (fun _ => ?_) (fun q9 => absurd q9 (by decide))
    obtain ⟨T, hT1, hT2, hxT⟩ := tk_x ht4 (show is_wi x (nI t9) 10000 by rw [← hnow]; exact b3)
    refine lv_iconst (v := 0) hx hb d_T_tick_24 (by decide) ?_
    refine lv_istore_n (lv' := [(2, .int 0), (0, .ref o), (1, .int x)]) hx hb d_T_tick_25 rfl hl (by decide) rfl (fun ls hl => ?_)
    refine lv_aload_n hx hb d_T_tick_26 rfl (lv_at hl 1 rfl) ?_
    refine lv_aload_n hx hb d_T_tick_27 rfl (lv_at hl 1 rfl) ?_
    refine va_get (D := D) (C := R_T) (T := F_T) (N := 6) hx hb htw uw_T hown hK hP 0 rfl rfl 5 (by decide) (htw _ k_T_28) (fun _ h9 => h9) rfl d_T_tick_28 ?_
    refine cp_V (n := 1) [.int now] hC (t_T_nextDueDay l D cM cG cI cJ o am ag pm pg off nm ng now F R now hn20) ⟨kc_T_nextDueDay, kn_T, k_T_134, ki_T_nextDueDay, kv_T_nextDueDay⟩ (by decide +kernel) ⟨rfl, rfl, Nat.le_of_ble_eq_true rfl, Nat.le_of_ble_eq_true rfl⟩ sa_2 (yt_Y D cM cG cI cJ) hY ⟨hP, hSA⟩ (va_recv hK hP (ci := 0) (q0 := 0) rfl rfl) rfl hl.1 rfl (Nat.le_of_ble_eq_true rfl) d_T_tick_31 ⟨Nat.le_of_ble_eq_true rfl, Nat.le_of_ble_eq_true rfl⟩ (fun r4 h5 => ?_)
    subst h5
    refine lv_istore_n (lv' := [(3, .int (nd_I F now nm)), (2, .int 0), (0, .ref o), (1, .int x)]) hx hb d_T_tick_34 rfl hl (by decide) rfl (fun ls hl => ?_)
    refine lv_iconst (v := 0) hx hb d_T_tick_35 (by decide) ?_
    refine lv_istore (lv' := [(4, .int 0), (3, .int (nd_I F now nm)), (2, .int 0), (0, .ref o), (1, .int x)]) hx hb d_T_tick_36 hl (by decide) rfl (fun ls hl => ?_)
    replace hl : lv_has ls 5 [(0, .ref o), (1, .int x), (2, .int 0), (3, .int (nd_I F now nm)), (4, .int (nI 0))] := lv_sub hl [3, 4, 2, 1, 0] rfl
    rw [show nd_I F now nm = nd_I F (nI t9) nm by rw [hnow]] at hl
    refine W.widen (k := ng - ng) (n := 7 * (ng - ng)) (by omega) (by omega) ?_
    obtain ⟨k, u, g, c9, F1, R1, pg1, H, locs, hk, hkc, hu1, hu2, hdy, hP9, hD9, hS9, hHH, hgg, hl9⟩ : ∃ (k u g : Nat) (c9 : Int32) (F1 : Nat → Nat → Int32) (R1 : Nat → Int32) (pg1 : Nat → Nat) (H : Heap) (locs : List Loc), k ≤ 80 ∧ k ≤ cp_N F nm u ∧ t9 ≤ u ∧ u ≤ T ∧ dy_s nm t9 (u - t9) (ng, 0, F, R) = (g, c9, F1, R1) ∧ va_P D cl_L (ws_C cM cG o am ag pm pg1 (off, nm, g, now, F1, R1)) H ∧ va_D A (ws_C cM cG o am ag pm pg1 (off, nm, g, now, F1, R1)) ∧ va_S A s.heap H locs ∧ (H = s.heap ∧ locs = []) ∧ g = ng ∧ lv_has ls 5 [(0, .ref o), (1, .int x), (2, .int c9), (3, .int (nd_I F1 (nI u) nm)), (4, .int (nI k))] := ⟨0, t9, ng, 0, F, R, pg, s.heap, [], Nat.zero_le _, Nat.zero_le _, Nat.le_refl _, hT1, by rw [Nat.sub_self]; rfl, hP, hD, hS, ⟨rfl, rfl⟩, rfl, hl⟩
    clear hl hSA
    obtain ⟨hH1, hH2⟩ := hHH
    have hgo : W p l e (headSpec (Cond.code y_T_tick c_T_tick 5 (some .int) :: tw_L) ({ frames := 6, cells := 200, slots := 1400, locals := 88 } : Room)).room s m ([Value.ref o, Value.int x] : List Value).toArray below meth c H locs (g - ng) (7 * (g - ng)) (vx_MQ below (va_Qi (fun (r : Int32) (_ : Nat → Nat) => (sp_ti (off, nm, ng, now, F, R) x).1 = 0 ∧ r = (sp_ti (off, nm, ng, now, F, R) x).2.1) (mu_B D (ws_C cM cG o am ag pm pg (off, nm, ng, now, F, R)) s.heap.size (fun pg1 => ws_C cM cG o am ag pm pg1 (sp_ti (off, nm, ng, now, F, R) x).2.2)) (va_A (ws_C cM cG o am ag pm pg (off, nm, ng, now, F, R)) s.heap.size)) (vx_X (fun _ : Unit => True) (fun E _ _ => E = "java/lang/IllegalArgumentException" ∧ (sp_ti (off, nm, ng, now, F, R) x).1 = 1) (fun q => s.heap.size ≤ q)) ([Value.ref o, Value.int x] : List Value).toArray s 200 1400 (va_A (ws_C cM cG o am ag pm pg (off, nm, ng, now, F, R)) s.heap.size)) (F0 m 38 ls []) := by
      clear hgg hH1 hH2 hP hD hS
      have hP := hP9
      have hD := hD9
      have hS := hS9
      have hl := hl9
      clear hP9 hD9 hS9 hl9
      obtain ⟨n9, hn9⟩ : ∃ n9 : Nat, 80 + 1 ≤ k + n9 := ⟨80 + 1, by omega⟩
      induction n9 generalizing k u g c9 F1 R1 pg1 H locs ls with
      | zero => exfalso; omega
      | succ n9 ih =>
        have iv9 := iv_s (c := 0) hn20 hM hZ hG hcn (u - t9) (by omega)
        rw [hdy, show t9 + (u - t9) = u by omega] at iv9
        obtain ⟨iM, iZ, iG, iC⟩ := iv9
        have hg2 : g ≤ 200 := by have := cn_0 iM iC; omega
        have hg0 : ng ≤ g := by have := ds_mono nm t9 (ng, 0, F, R) (u - t9); rw [hdy] at this; exact this
        have hF2 : ∀ i, F1 2 i = F 2 i := fun i => by have := ds_2 nm t9 (ng, 0, F, R) i (u - t9); rw [hdy] at this; exact this
        have hlim : ∀ i, i < nm → 0 ≤ (F 2 i).toInt ∧ (F 2 i).toInt ≤ 10000 := fun i hi => (hM i hi).2.2.1
        obtain ⟨n1, n2, n3, n4⟩ := nd_ok (F := F1) (a := nI u) (by rw [i_nI (by omega)]; omega) nm (fun i hi => by rw [hF2]; exact hlim i hi)
        rw [i_nI (show u < 2147483648 by omega)] at n1 n4
        have hr1 : g - ng + 0 ≤ 200 := by omega
        have hr2 : 7 * (g - ng) + 0 ≤ 1400 := by omega
        refine lv_iload hx hb d_T_tick_38 (lv_at hl 4 rfl) ?_
        refine lv_bipush (v := 80) hx hb d_T_tick_40 (by decide) ?_
        refine lv_icmp_ge (tgt := 70) hx hb d_T_tick_42 (by decide) (fun c6 => ?_) (fun c6 => ?_)
        · have hno : ∀ w : Nat, u < w → w ≤ T → ∀ i, i < nm → ¬ is_du (F 2 i) w := fun w h1 h2 i hi hd => by have a1 := cp_lt (F := F) h1 hi hd; have a2 := cp_le F nm w; have a3 := lp_ge (n := 80) c6 (by omega); omega
          have hfin : dy_s nm t9 (T - t9) (ng, 0, F, R) = (g, c9, F1, R1) := (ds_no (x := (ng, 0, F, R)) hlim hu1 T hu2 hT2 hno).trans hdy
          refine lv_aload_n hx hb d_T_tick_70 rfl (lv_at hl 0 rfl) ?_
          refine lv_iload_n hx hb d_T_tick_71 rfl (lv_at hl 1 rfl) ?_
          refine va_put (D := D) (ci := 0) (v := .int x) (ty := .int) (C := R_T) (T := F_T) (N := 6) hx hb htw uw_T ft_T tk_T n_T hown hK hP hD hS 0 rfl rfl 5 (by decide) (htw _ k_T_28) (fun _ h9 => h9) rfl (by decide +kernel) rfl rfl (Nat.le_of_ble_eq_true rfl) d_T_tick_72 (fun H locs hP hD hS => ?_)
          have hP : va_P D cl_L (ws_C cM cG o am ag pm pg1 (off, nm, g, x, F1, R1)) H := hP
          have hD : va_D A (ws_C cM cG o am ag pm pg1 (off, nm, g, x, F1, R1)) := hD
          refine lv_iload_n hx hb d_T_tick_75 rfl (lv_at hl 2 rfl) ?_
          subst hAe
          have e_S : sp_ti (off, nm, ng, now, F, R) x = (0, c9, (off, nm, g, x, F1, R1)) := by simp only [sp_ti]; rw [if_pos b3, hxT, hnow, nI_clamp (show T < 2 ^ 31 by omega), nI_clamp (show t9 < 2 ^ 31 by omega), hfin]
          refine vx_ret ?_
          refine W.widen (k := 200) (n := 1400) (by omega) (by omega) ?_
          exact W.iret (v := c9) hx hb hr (fun t ht hW => ⟨⟨_, pg1, rfl, ⟨by rw [e_S], by rw [e_S]⟩, by rw [ht, e_S]; exact hP, by rw [e_S]; exact hD⟩, hS.F ht⟩) hS.2.2 d_T_tick_76
        · refine lv_iload_n hx hb d_T_tick_45 rfl (lv_at hl 3 rfl) ?_
          refine lv_iload_n hx hb d_T_tick_46 rfl (lv_at hl 1 rfl) ?_
          refine lv_icmp_gt (tgt := 70) hx hb d_T_tick_47 (by decide) (fun c7 => ?_) (fun c7 => ?_)
          · have hno : ∀ w : Nat, u < w → w ≤ T → ∀ i, i < nm → ¬ is_du (F 2 i) w := fun w h1 h2 i hi hd => by have a1 := n4 w i (by omega) hi (by rw [hF2]; exact hd); have a2 := c7; rw [hxT, i_lt, i_nI (by omega)] at a2; omega
            have hfin : dy_s nm t9 (T - t9) (ng, 0, F, R) = (g, c9, F1, R1) := (ds_no (x := (ng, 0, F, R)) hlim hu1 T hu2 hT2 hno).trans hdy
            refine lv_aload_n hx hb d_T_tick_70 rfl (lv_at hl 0 rfl) ?_
            refine lv_iload_n hx hb d_T_tick_71 rfl (lv_at hl 1 rfl) ?_
            refine va_put (D := D) (ci := 0) (v := .int x) (ty := .int) (C := R_T) (T := F_T) (N := 6) hx hb htw uw_T ft_T tk_T n_T hown hK hP hD hS 0 rfl rfl 5 (by decide) (htw _ k_T_28) (fun _ h9 => h9) rfl (by decide +kernel) rfl rfl (Nat.le_of_ble_eq_true rfl) d_T_tick_72 (fun H locs hP hD hS => ?_)
            have hP : va_P D cl_L (ws_C cM cG o am ag pm pg1 (off, nm, g, x, F1, R1)) H := hP
            have hD : va_D A (ws_C cM cG o am ag pm pg1 (off, nm, g, x, F1, R1)) := hD
            refine lv_iload_n hx hb d_T_tick_75 rfl (lv_at hl 2 rfl) ?_
            subst hAe
            have e_S : sp_ti (off, nm, ng, now, F, R) x = (0, c9, (off, nm, g, x, F1, R1)) := by simp only [sp_ti]; rw [if_pos b3, hxT, hnow, nI_clamp (show T < 2 ^ 31 by omega), nI_clamp (show t9 < 2 ^ 31 by omega), hfin]
            refine vx_ret ?_
            refine W.widen (k := 200) (n := 1400) (by omega) (by omega) ?_
            exact W.iret (v := c9) hx hb hr (fun t ht hW => ⟨⟨_, pg1, rfl, ⟨by rw [e_S], by rw [e_S]⟩, by rw [ht, e_S]; exact hP, by rw [e_S]; exact hD⟩, hS.F ht⟩) hS.2.2 d_T_tick_76
          · have hk80 : k < 80 := lp_lt (n := 80) c6 (by omega)
            obtain ⟨v, hv1, hv2, hv3⟩ := nd_v (d := nd_I F1 (nI u) nm) (u := u) (T := T) n1 (by have a2 := c7; rw [hxT, i_lt, i_nI (by omega)] at a2; omega) hT2
            rw [hv3] at n3 n4 hl
            rw [i_nI (show v < 2147483648 by omega)] at n3 n4
            obtain ⟨i0, hi0, hd0⟩ : ∃ i, i < nm ∧ is_du (F1 2 i) v := n3.resolve_left (by omega)
            have hcpv := cp_lt (F := F) hv1 hi0 (by rw [← hF2]; exact hd0)
            have ivd : iv_d off nm v 0 g F1 R1 := dv_0 (by omega) (fun i hi => im_t (by omega) (iM i hi)) iZ iG iC
            have hdk : ∀ k, k < nm → dk_ok (nI v) k (dy_d (nI v) k (g, 0, F1, R1)) := fun k hk => dv_ok (c := (dy_d (nI v) k (g, 0, F1, R1)).2.1) hk hn20 (by omega) (by omega) (dv_d (c := 0) hn20 (by omega) (by omega) ivd k (by omega))
            have ivn := dv_d (c := 0) hn20 (by omega) (by omega) ivd nm (Nat.le_refl _)
            have hG2 : (dy_d (nI v) nm (g, 0, F1, R1)).1 ≤ 200 := by have := cn_0 (dv_n ivn) ivn.2.2.2; omega
            have hG1 : g ≤ (dy_d (nI v) nm (g, 0, F1, R1)).1 := dy_mono (nI v) (g, 0, F1, R1) 0 nm (Nat.zero_le _)
            have hdy2 : dy_s nm t9 (v - t9) (ng, 0, F, R) = ((dy_d (nI v) nm (g, 0, F1, R1)).1, c9 + (dy_d (nI v) nm (g, 0, F1, R1)).2.1, (dy_d (nI v) nm (g, 0, F1, R1)).2.2.1, (dy_d (nI v) nm (g, 0, F1, R1)).2.2.2) := ds_v (x := (ng, 0, F, R)) hlim hu1 hv1 (by omega) (fun w h1 h2 i hi hd => by have a1 := n4 w i (by omega) hi (by rw [hF2]; exact hd); omega) hdy
            have hr3 : g - ng + ((dy_d (nI v) nm (g, 0, F1, R1)).1 - g) ≤ 200 := tk_r1 hg0 hG1 hG2
            have hr4 : 7 * (g - ng) + 7 * ((dy_d (nI v) nm (g, 0, F1, R1)).1 - g) ≤ 1400 := tk_r2 hg0 hG1 hG2
            refine lv_iload_n hx hb d_T_tick_50 rfl (lv_at hl 2 rfl) ?_
            refine lv_aload_n hx hb d_T_tick_51 rfl (lv_at hl 0 rfl) ?_
            refine lv_iload_n hx hb d_T_tick_52 rfl (lv_at hl 3 rfl) ?_
            have hF9 := wk_F hD hS hA
            refine cm_Vi (n := 1) [.int (nI v)] hC (t_T_passDueDay l D cM cG cI cJ o am ag pm pg1 off nm g now F1 R1 _ (nI v) hn20 (by rw [i_nI (show v < 2147483648 by omega)]; omega) hdk) ⟨kc_T_passDueDay, kn_T, k_T_138, ki_T_passDueDay, kv_T_passDueDay⟩ (by decide +kernel) ⟨rfl, rfl, Nat.le_of_ble_eq_true rfl, Nat.le_of_ble_eq_true rfl⟩ sa_X (yt_Y D cM cG cI cJ) hY (sa_k hXa hS hF9) (va_recv hK hP (ci := 0) (q0 := 0) rfl rfl) hP (wk_T hD) hS hF9 rfl hl.1 rfl (Nat.le_of_ble_eq_true rfl) d_T_tick_53 ⟨hr3, hr4⟩ (fun r9 pg8 H locs hw9 hP1 hD1 hz9 hk9 hS => ?_)
            have hP : va_P D cl_L (ws_C cM cG o am ag pm pg8 (off, nm, (dy_d (nI v) nm (g, 0, F1, R1)).1, now, (dy_d (nI v) nm (g, 0, F1, R1)).2.2.1, (dy_d (nI v) nm (g, 0, F1, R1)).2.2.2)) H := hP1
            have hD : va_D A (ws_C cM cG o am ag pm pg8 (off, nm, (dy_d (nI v) nm (g, 0, F1, R1)).1, now, (dy_d (nI v) nm (g, 0, F1, R1)).2.2.1, (dy_d (nI v) nm (g, 0, F1, R1)).2.2.2)) := wk_D hD1 hF9
            rw [hw9]
            have hSA : sa_P no_A s H := sa_k hXa hS (fun q h => h.elim)
            have hr5 : g - ng + ((dy_d (nI v) nm (g, 0, F1, R1)).1 - g) + 0 ≤ 200 := hr3
            have hr6 : 7 * (g - ng) + 7 * ((dy_d (nI v) nm (g, 0, F1, R1)).1 - g) + 0 ≤ 1400 := hr4
            refine lv_iadd hx hb d_T_tick_56 ?_
            refine lv_istore_n (lv' := [(2, .int (c9 + ((dy_d (nI v) nm (g, 0, F1, R1)).2.1))), (0, .ref o), (1, .int x), (3, .int (nI v)), (4, .int (nI k))]) hx hb d_T_tick_57 rfl hl (by decide) rfl (fun ls hl => ?_)
            refine lv_aload_n hx hb d_T_tick_58 rfl (lv_at hl 1 rfl) ?_
            refine lv_iload_n hx hb d_T_tick_59 rfl (lv_at hl 3 rfl) ?_
            refine cp_V (n := 1) [.int (nI v)] hC (t_T_nextDueDay l D cM cG cI cJ o am ag pm pg8 off nm ((dy_d (nI v) nm (g, 0, F1, R1)).1) now ((dy_d (nI v) nm (g, 0, F1, R1)).2.2.1) ((dy_d (nI v) nm (g, 0, F1, R1)).2.2.2) (nI v) hn20) ⟨kc_T_nextDueDay, kn_T, k_T_134, ki_T_nextDueDay, kv_T_nextDueDay⟩ (by decide +kernel) ⟨rfl, rfl, Nat.le_of_ble_eq_true rfl, Nat.le_of_ble_eq_true rfl⟩ sa_2 (yt_Y D cM cG cI cJ) hY ⟨hP, hSA⟩ (va_recv hK hP (ci := 0) (q0 := 0) rfl rfl) rfl hl.1 rfl (Nat.le_of_ble_eq_true rfl) d_T_tick_60 ⟨hr5, hr6⟩ (fun r10 h11 => ?_)
            subst h11
            refine lv_istore_n (lv' := [(3, .int (nd_I ((dy_d (nI v) nm (g, 0, F1, R1)).2.2.1) (nI v) nm)), (2, .int (c9 + ((dy_d (nI v) nm (g, 0, F1, R1)).2.1))), (0, .ref o), (1, .int x), (4, .int (nI k))]) hx hb d_T_tick_63 rfl hl (by decide) rfl (fun ls hl => ?_)
            refine lv_iinc (v := nI (k + 1)) (lv' := [(4, .int (nI (k + 1))), (3, .int (nd_I ((dy_d (nI v) nm (g, 0, F1, R1)).2.2.1) (nI v) nm)), (2, .int (c9 + ((dy_d (nI v) nm (g, 0, F1, R1)).2.1))), (0, .ref o), (1, .int x)]) hx hb d_T_tick_64 hl (k := 4) rfl (nI_1 k) (by decide) rfl (fun ls hl => ?_)
            refine lv_goto (tgt := 38) hx hb d_T_tick_67 (by decide) ?_
            refine W.widen (k := (dy_d (nI v) nm (g, 0, F1, R1)).1 - ng) (n := 7 * ((dy_d (nI v) nm (g, 0, F1, R1)).1 - ng)) (tk_w1 hg0 hG1) (tk_w2 hg0 hG1) ?_
            exact ih ls (k + 1) v (dy_d (nI v) nm (g, 0, F1, R1)).1 (c9 + (dy_d (nI v) nm (g, 0, F1, R1)).2.1) (dy_d (nI v) nm (g, 0, F1, R1)).2.2.1 (dy_d (nI v) nm (g, 0, F1, R1)).2.2.2 pg8 H locs (by omega) (by omega) (by omega) hv2 hdy2 hP hD hS (lv_sub hl [3, 4, 2, 1, 0] rfl) (by omega)
    rw [hgg, hH1, hH2] at hgo
    exact hgo
  · refine lv_if_ne (tgt := 24) hx hb d_T_tick_11 (by decide) (fun q9 => absurd rfl q9) (fun _ => ?_)
    obtain ⟨sa9, hsa9⟩ := hY.2.2.2.1 (132, "the day is ahead of now or too high") (by decide)
    have e_S : sp_ti (off, nm, ng, now, F, R) x = (1, 0, (off, nm, ng, now, F, R)) := by simp only [sp_ti]; rw [if_neg b3]
    exact vx_throwS (A := A) hx hb hl0 hown (by decide +kernel) (by decide +kernel) (htw _ k_T_38) (htw _ kn_IllegalArgumentException) hsa9 (at_IllegalArgumentException htw hY) ag_IllegalArgumentException hXs.1 hXs.2 hS (hl.1.trans hml.symm) d_T_tick_14 d_T_tick_17 d_T_tick_18 d_T_tick_20 d_T_tick_23 (fun x hx9 => (hne x hx9).elim) (Nat.le_of_ble_eq_true rfl) (Nat.le_of_ble_eq_true rfl) (Nat.le_of_ble_eq_true rfl) (Nat.le_of_ble_eq_true rfl) hlocks (fun t ht1 ht2 ht3 => ⟨(), trivial, ⟨rfl, by rw [e_S]⟩, ht2, fun q h1 _ => ht3 q h1⟩) (fun z hz => nomatch hz) (Nat.le_of_ble_eq_true rfl) (Nat.le_of_ble_eq_true rfl)
