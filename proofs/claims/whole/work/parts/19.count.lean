theorem lp_lt {k n : Nat} {N : Int32} (h : ¬ N ≤ nI k) (hk : k < 2147483648) (hN : N.toInt = n := by rfl) : k < n := by
  rw [i_le, i_nI hk] at h
  omega
theorem lp_ge {k n : Nat} {N : Int32} (h : N ≤ nI k) (hk : k < 2147483648) (hN : N.toInt = n := by rfl) : n ≤ k := by
  rw [i_le, i_nI hk] at h
  omega
set_option maxHeartbeats 4000000 in
set_option maxRecDepth 100000 in
theorem t_T_sumOverMovements (l : Launch) (D : va_G) (cM cG cI cJ : ClassId) (o am ag : Nat) (pm pg : Nat → Nat) (off : Int32) (nm ng : Nat) (now : Int32) (F : Nat → Nat → Int32) (R : Nat → Int32) (x : Int32) (hn20 : nm ≤ 20) : Met l y_T_sumOverMovements (Cond.code y_T_sumOverMovements c_T_sumOverMovements 5 (some .int) :: tw_L) ({ frames := 2, cells := 0, slots := 0, locals := 41 } : Room) (pu_P (fun _ => va_P D cl_L (ws_C cM cG o am ag pm pg (off, nm, ng, now, F, R))) (yt_P D cM cG cI cJ) [.ref o, .int x]) (vp_Si (fun r => r = sm_I (fun i => sh_I F i x) nm)) 0 0 no_A := by
  refine Met.ofW (cc := c_T_sumOverMovements) (maxL := 5) (ret := (some .int)) (by decide) rfl ?_
  intro p e s m args below meth c s₁ B hml hv
  obtain ⟨rfl, hX, hY⟩ := hv
  have hx := B.exec
  have hb := B.bytes
  have hr := B.returns
  have htw : ∀ w ∈ tw_L, w.before _ s = true := fun w hw => atoms_spec (ws := (Cond.code y_T_sumOverMovements c_T_sumOverMovements 5 (some .int) :: tw_L)) B.pre w (List.mem_cons_of_mem _ hw)
  have hown : s.vm.findClass R_T = some m.cls := findClass_of_methodNamed B.named
  have hlocks := B.notSynchronized
  have hC : CallFix p m c c_T_sumOverMovements 5 s _ tw_L R_T := ⟨hx, hb, hml, hown, htw⟩
  have hK := hY.1
  have hl := lv_entry ([.ref o, .int x]) (n := 5) (Nat.le_of_ble_eq_true rfl)
  rw [lg_entry_eq]
  generalize (lg_sl ([.ref o, .int x]) ++ List.replicate (5 - (lg_sl ([.ref o, .int x])).length) Slot.unset).toArray = ls at hl ⊢
  have hl : lv_has ls 5 [(0, .ref o), (1, .int x)] := hl
  have hP := hX
  refine lv_iconst (v := 0) hx hb d_T_sumOverMovements_0 (by decide) ?_
  refine lv_istore_n (lv' := [(2, .int 0), (0, .ref o), (1, .int x)]) hx hb d_T_sumOverMovements_1 rfl hl (by decide) rfl (fun ls hl => ?_)
  refine lv_iconst (v := 0) hx hb d_T_sumOverMovements_2 (by decide) ?_
  refine lv_istore_n (lv' := [(3, .int 0), (2, .int 0), (0, .ref o), (1, .int x)]) hx hb d_T_sumOverMovements_3 rfl hl (by decide) rfl (fun ls hl => ?_)
  replace hl : lv_has ls 5 [(0, .ref o), (1, .int x), (2, .int (sm_I (fun i => sh_I F i x) 0)), (3, .int (nI 0))] := lv_sub hl [2, 3, 1, 0] rfl
  obtain ⟨k, q, hk, hq, hl9⟩ : ∃ k q : Nat, k ≤ 20 ∧ ((k ≤ nm ∧ q = k) ∨ (nm ≤ k ∧ q = nm)) ∧ lv_has ls 5 [(0, .ref o), (1, .int x), (2, .int (sm_I (fun i => sh_I F i x) q)), (3, .int (nI k))] := ⟨0, 0, Nat.zero_le _, Or.inl ⟨Nat.zero_le _, rfl⟩, hl⟩
  clear hl
  have hl := hl9
  clear hl9
  obtain ⟨n9, hn9⟩ : ∃ n9 : Nat, 20 + 1 ≤ k + n9 := ⟨20 + 1, by omega⟩
  induction n9 generalizing k q ls with
  | zero => exfalso; omega
  | succ n9 ih =>
    refine lv_iload_n hx hb d_T_sumOverMovements_4 rfl (lv_at hl 3 rfl) ?_
    refine lv_aload_n hx hb d_T_sumOverMovements_5 rfl (lv_at hl 0 rfl) ?_
    refine va_get (D := D) (C := R_T) (T := F_T) (N := 6) hx hb htw uw_T hown hK hP 0 rfl rfl 1 (by decide) (htw _ k_T_11) (fun _ h9 => h9) rfl d_T_sumOverMovements_6 ?_
    refine va_alen (v := 20) hx hb hK hP 1 0 rfl rfl rfl d_T_sumOverMovements_9 ?_
    refine lv_icmp_ge (tgt := 41) hx hb d_T_sumOverMovements_10 (by decide) (fun c1 => ?_) (fun c1 => ?_)
    · have hqn : q = nm := by have := lp_ge (n := 20) c1 (by omega); omega
      rw [hqn] at hl
      refine lv_iload_n hx hb d_T_sumOverMovements_41 rfl (lv_at hl 2 rfl) ?_
      exact W.iret (v := (sm_I (fun i => sh_I F i x) nm)) hx hb hr (fun t ht hW => ⟨_, rfl, rfl, ht⟩) (fun q h => nomatch h) d_T_sumOverMovements_42
    · have hk9 : k < 20 := lp_lt (n := 20) c1 (by omega)
      refine lv_aload_n hx hb d_T_sumOverMovements_13 rfl (lv_at hl 0 rfl) ?_
      refine va_get (D := D) (C := R_T) (T := F_T) (N := 6) hx hb htw uw_T hown hK hP 0 rfl rfl 1 (by decide) (htw _ k_T_11) (fun _ h9 => h9) rfl d_T_sumOverMovements_14 ?_
      refine lv_iload_n hx hb d_T_sumOverMovements_17 rfl (lv_at hl 3 rfl) ?_
      refine va_aldq hx hb hK hP 1 0 rfl rfl (vp_in_nI hk9 (by decide)) d_T_sumOverMovements_18 ?_
      rw [nI_clamp (Nat.lt_trans hk9 (by decide))]
      by_cases hkn : k < nm
      · rw [rf_at hkn]
        refine W.eq (g2 := F0 m 19 ls (.ref (pm k) :: [])) rfl ?_
        have hqk : q = k := by omega
        rw [hqk] at hl
        refine lv_astore (lv' := [(4, .ref (pm k)), (0, .ref o), (1, .int x), (2, .int (sm_I (fun i => sh_I F i x) k)), (3, .int (nI k))]) hx hb d_T_sumOverMovements_19 hl (by decide) rfl (fun ls hl => ?_)
        refine lv_aload hx hb d_T_sumOverMovements_21 (lv_at hl 0 rfl) ?_
        refine lv_ifnull hx hb d_T_sumOverMovements_23 ?_
        refine lv_iload_n hx hb d_T_sumOverMovements_26 rfl (lv_at hl 3 rfl) ?_
        refine lv_aload hx hb d_T_sumOverMovements_27 (lv_at hl 0 rfl) ?_
        refine lv_iload_n hx hb d_T_sumOverMovements_29 rfl (lv_at hl 2 rfl) ?_
        refine cp_V (n := 1) [.int x] hC (t_V_shareInSum l D cM cG cI cJ (pm k) F k x) ⟨kc_V_shareInSum, kn_V, k_T_242, ki_V_shareInSum, kv_V_shareInSum⟩ (by decide +kernel) ⟨rfl, rfl, Nat.le_of_ble_eq_true rfl, Nat.le_of_ble_eq_true rfl⟩ x_0 (yt_Y D cM cG cI cJ) hY (wk_1 hP (mv_at hkn)) (va_recv hK hP (ci := 1) (q0 := (k + 3)) rfl (mv_at hkn)) rfl hl.1 rfl (Nat.le_of_ble_eq_true rfl) d_T_sumOverMovements_30 ⟨Nat.le_of_ble_eq_true rfl, Nat.le_of_ble_eq_true rfl⟩ (fun r2 h3 => ?_)
        subst h3
        refine lv_iadd hx hb d_T_sumOverMovements_33 ?_
        refine lv_istore_n (lv' := [(2, .int ((sm_I (fun i => sh_I F i x) k) + (sh_I F k x))), (4, .ref (pm k)), (0, .ref o), (1, .int x), (3, .int (nI k))]) hx hb d_T_sumOverMovements_34 rfl hl (by decide) rfl (fun ls hl => ?_)
        refine lv_iinc (v := nI (k + 1)) (lv' := [(3, .int (nI (k + 1))), (2, .int ((sm_I (fun i => sh_I F i x) k) + (sh_I F k x))), (4, .ref (pm k)), (0, .ref o), (1, .int x)]) hx hb d_T_sumOverMovements_35 hl (k := 4) rfl (nI_1 k) (by decide) rfl (fun ls hl => ?_)
        refine lv_goto (tgt := 4) hx hb d_T_sumOverMovements_38 (by decide) ?_
        exact ih ls (k + 1) (k + 1) (by omega) (Or.inl ⟨by omega, rfl⟩) (lv_sub hl [3, 4, 1, 0] rfl) (by omega)
      · rw [rf_no (Nat.not_lt.mp hkn)]
        refine W.eq (g2 := F0 m 19 ls (.null :: [])) rfl ?_
        refine lv_astoreN (lv' := [(4, .null), (0, .ref o), (1, .int x), (2, .int (sm_I (fun i => sh_I F i x) q)), (3, .int (nI k))]) hx hb d_T_sumOverMovements_19 hl (by decide) rfl (fun ls hl => ?_)
        refine lv_aloadN hx hb d_T_sumOverMovements_21 (lv_at hl 0 rfl) ?_
        refine lv_ifnullN (tgt := 35) hx hb d_T_sumOverMovements_23 (by decide) ?_
        refine lv_iinc (v := nI (k + 1)) (lv' := [(3, .int (nI (k + 1))), (4, .null), (0, .ref o), (1, .int x), (2, .int (sm_I (fun i => sh_I F i x) q))]) hx hb d_T_sumOverMovements_35 hl (k := 4) rfl (nI_1 k) (by decide) rfl (fun ls hl => ?_)
        refine lv_goto (tgt := 4) hx hb d_T_sumOverMovements_38 (by decide) ?_
        exact ih ls (k + 1) q (by omega) (Or.inr ⟨by omega, by omega⟩) (lv_sub hl [2, 3, 4, 0] rfl) (by omega)
set_option maxHeartbeats 4000000 in
set_option maxRecDepth 100000 in
theorem t_T_countOnTheirWay (l : Launch) (D : va_G) (cM cG cI cJ : ClassId) (o am ag : Nat) (pm pg : Nat → Nat) (off : Int32) (nm ng : Nat) (now : Int32) (F : Nat → Nat → Int32) (R : Nat → Int32) (hg200 : ng ≤ 200) : Met l y_T_countOnTheirWay (Cond.code y_T_countOnTheirWay c_T_countOnTheirWay 4 (some .int) :: tw_L) ({ frames := 0, cells := 0, slots := 0, locals := 0 } : Room) (pu_P (fun _ => va_P D cl_L (ws_C cM cG o am ag pm pg (off, nm, ng, now, F, R))) (yt_P D cM cG cI cJ) [.ref o]) (vp_Si (fun r => r = sm_I (fun j => if R (7 * j + 6) = 0 then 1 else 0) ng)) 0 0 no_A := by
  refine Met.ofW (cc := c_T_countOnTheirWay) (maxL := 4) (ret := (some .int)) (by decide) rfl ?_
  intro p e s m args below meth c s₁ B hml hv
  obtain ⟨rfl, hX, hY⟩ := hv
  have hx := B.exec
  have hb := B.bytes
  have hr := B.returns
  have htw : ∀ w ∈ tw_L, w.before _ s = true := fun w hw => atoms_spec (ws := (Cond.code y_T_countOnTheirWay c_T_countOnTheirWay 4 (some .int) :: tw_L)) B.pre w (List.mem_cons_of_mem _ hw)
  have hown : s.vm.findClass R_T = some m.cls := findClass_of_methodNamed B.named
  have hlocks := B.notSynchronized
  have hC : CallFix p m c c_T_countOnTheirWay 4 s _ tw_L R_T := ⟨hx, hb, hml, hown, htw⟩
  have hK := hY.1
  have hl := lv_entry ([.ref o]) (n := 4) (Nat.le_of_ble_eq_true rfl)
  rw [lg_entry_eq]
  generalize (lg_sl ([.ref o]) ++ List.replicate (4 - (lg_sl ([.ref o])).length) Slot.unset).toArray = ls at hl ⊢
  have hl : lv_has ls 4 [(0, .ref o)] := hl
  have hP := hX
  refine lv_iconst (v := 0) hx hb d_T_countOnTheirWay_0 (by decide) ?_
  refine lv_istore_n (lv' := [(1, .int 0), (0, .ref o)]) hx hb d_T_countOnTheirWay_1 rfl hl (by decide) rfl (fun ls hl => ?_)
  refine lv_iconst (v := 0) hx hb d_T_countOnTheirWay_2 (by decide) ?_
  refine lv_istore_n (lv' := [(2, .int 0), (1, .int 0), (0, .ref o)]) hx hb d_T_countOnTheirWay_3 rfl hl (by decide) rfl (fun ls hl => ?_)
  replace hl : lv_has ls 4 [(0, .ref o), (1, .int (sm_I (fun j => if R (7 * j + 6) = 0 then 1 else 0) 0)), (2, .int (nI 0))] := lv_sub hl [2, 1, 0] rfl
  obtain ⟨k, q, hk, hq, hl9⟩ : ∃ k q : Nat, k ≤ 200 ∧ ((k ≤ ng ∧ q = k) ∨ (ng ≤ k ∧ q = ng)) ∧ lv_has ls 4 [(0, .ref o), (1, .int (sm_I (fun j => if R (7 * j + 6) = 0 then 1 else 0) q)), (2, .int (nI k))] := ⟨0, 0, Nat.zero_le _, Or.inl ⟨Nat.zero_le _, rfl⟩, hl⟩
  clear hl
  have hl := hl9
  clear hl9
  obtain ⟨n9, hn9⟩ : ∃ n9 : Nat, 200 + 1 ≤ k + n9 := ⟨200 + 1, by omega⟩
  induction n9 generalizing k q ls with
  | zero => exfalso; omega
  | succ n9 ih =>
    refine lv_iload_n hx hb d_T_countOnTheirWay_4 rfl (lv_at hl 2 rfl) ?_
    refine lv_aload_n hx hb d_T_countOnTheirWay_5 rfl (lv_at hl 0 rfl) ?_
    refine va_get (D := D) (C := R_T) (T := F_T) (N := 6) hx hb htw uw_T hown hK hP 0 rfl rfl 2 (by decide) (htw _ k_T_17) (fun _ h9 => h9) rfl d_T_countOnTheirWay_6 ?_
    refine va_alen (v := 200) hx hb hK hP 2 1 rfl rfl rfl d_T_countOnTheirWay_9 ?_
    refine lv_icmp_ge (tgt := 40) hx hb d_T_countOnTheirWay_10 (by decide) (fun c1 => ?_) (fun c1 => ?_)
    · have hqn : q = ng := by have := lp_ge (n := 200) c1 (by omega); omega
      rw [hqn] at hl
      refine lv_iload_n hx hb d_T_countOnTheirWay_40 rfl (lv_at hl 1 rfl) ?_
      exact W.iret (v := (sm_I (fun j => if R (7 * j + 6) = 0 then 1 else 0) ng)) hx hb hr (fun t ht hW => ⟨_, rfl, rfl, ht⟩) (fun q h => nomatch h) d_T_countOnTheirWay_41
    · have hk9 : k < 200 := lp_lt (n := 200) c1 (by omega)
      refine lv_aload_n hx hb d_T_countOnTheirWay_13 rfl (lv_at hl 0 rfl) ?_
      refine va_get (D := D) (C := R_T) (T := F_T) (N := 6) hx hb htw uw_T hown hK hP 0 rfl rfl 2 (by decide) (htw _ k_T_17) (fun _ h9 => h9) rfl d_T_countOnTheirWay_14 ?_
      refine lv_iload_n hx hb d_T_countOnTheirWay_17 rfl (lv_at hl 2 rfl) ?_
      refine va_aldq hx hb hK hP 2 1 rfl rfl (vp_in_nI hk9 (by decide)) d_T_countOnTheirWay_18 ?_
      rw [nI_clamp (Nat.lt_trans hk9 (by decide))]
      by_cases hkn : k < ng
      · rw [rf_at hkn]
        refine W.eq (g2 := F0 m 19 ls (.ref (pg k) :: [])) rfl ?_
        have hqk : q = k := by omega
        rw [hqk] at hl
        refine lv_astore_n (lv' := [(3, .ref (pg k)), (0, .ref o), (1, .int (sm_I (fun j => if R (7 * j + 6) = 0 then 1 else 0) k)), (2, .int (nI k))]) hx hb d_T_countOnTheirWay_19 rfl hl (by decide) rfl (fun ls hl => ?_)
        refine lv_aload_n hx hb d_T_countOnTheirWay_20 rfl (lv_at hl 0 rfl) ?_
        refine lv_ifnull hx hb d_T_countOnTheirWay_21 ?_
        refine lv_aload_n hx hb d_T_countOnTheirWay_24 rfl (lv_at hl 0 rfl) ?_
        refine va_get (D := D) (C := R_G) (T := F_G) (N := 7) hx hb htw uw_G hown hK hP (nm + k + 3) (ms_at hkn) rfl 6 (by decide) (htw _ k_T_119) (fun _ h9 => h9) rfl d_T_countOnTheirWay_25 ?_
        refine lv_if_ne (tgt := 34) hx hb d_T_countOnTheirWay_28 (by decide) (fun c2 => ?_) (fun c2 => ?_)
        · refine lv_iinc (v := nI (k + 1)) (lv' := [(2, .int (nI (k + 1))), (3, .ref (pg k)), (0, .ref o), (1, .int (sm_I (fun j => if R (7 * j + 6) = 0 then 1 else 0) k))]) hx hb d_T_countOnTheirWay_34 hl (k := 3) rfl (nI_1 k) (by decide) rfl (fun ls hl => ?_)
          refine lv_goto (tgt := 4) hx hb d_T_countOnTheirWay_37 (by decide) ?_
          have e9 : sm_I (fun j => if R (7 * j + 6) = 0 then 1 else 0) k = sm_I (fun j => if R (7 * j + 6) = 0 then 1 else 0) (k + 1) := by simp only [sm_I]; rw [if_neg c2]; simp
          rw [e9] at hl
          exact ih ls (k + 1) (k + 1) (by omega) (Or.inl ⟨by omega, rfl⟩) (lv_sub hl [2, 3, 0] rfl) (by omega)
        · refine lv_iinc (v := sm_I (fun j => if R (7 * j + 6) = 0 then 1 else 0) (k + 1)) (lv' := [(1, .int (sm_I (fun j => if R (7 * j + 6) = 0 then 1 else 0) (k + 1))), (3, .ref (pg k)), (0, .ref o), (2, .int (nI k))]) hx hb d_T_countOnTheirWay_31 hl (k := 2) rfl (by simp only [sm_I]; rw [if_pos c2]; rfl) (by decide) rfl (fun ls hl => ?_)
          refine lv_iinc (v := nI (k + 1)) (lv' := [(2, .int (nI (k + 1))), (1, .int (sm_I (fun j => if R (7 * j + 6) = 0 then 1 else 0) (k + 1))), (3, .ref (pg k)), (0, .ref o)]) hx hb d_T_countOnTheirWay_34 hl (k := 3) rfl (nI_1 k) (by decide) rfl (fun ls hl => ?_)
          refine lv_goto (tgt := 4) hx hb d_T_countOnTheirWay_37 (by decide) ?_
          exact ih ls (k + 1) (k + 1) (by omega) (Or.inl ⟨by omega, rfl⟩) (lv_sub hl [3, 1, 0] rfl) (by omega)
      · rw [rf_no (Nat.not_lt.mp hkn)]
        refine W.eq (g2 := F0 m 19 ls (.null :: [])) rfl ?_
        refine lv_astore_nN (lv' := [(3, .null), (0, .ref o), (1, .int (sm_I (fun j => if R (7 * j + 6) = 0 then 1 else 0) q)), (2, .int (nI k))]) hx hb d_T_countOnTheirWay_19 rfl hl (by decide) rfl (fun ls hl => ?_)
        refine lv_aload_nN hx hb d_T_countOnTheirWay_20 rfl (lv_at hl 0 rfl) ?_
        refine lv_ifnullN (tgt := 34) hx hb d_T_countOnTheirWay_21 (by decide) ?_
        refine lv_iinc (v := nI (k + 1)) (lv' := [(2, .int (nI (k + 1))), (3, .null), (0, .ref o), (1, .int (sm_I (fun j => if R (7 * j + 6) = 0 then 1 else 0) q))]) hx hb d_T_countOnTheirWay_34 hl (k := 3) rfl (nI_1 k) (by decide) rfl (fun ls hl => ?_)
        refine lv_goto (tgt := 4) hx hb d_T_countOnTheirWay_37 (by decide) ?_
        exact ih ls (k + 1) q (by omega) (Or.inr ⟨by omega, by omega⟩) (lv_sub hl [2, 3, 0] rfl) (by omega)
set_option maxHeartbeats 4000000 in
set_option maxRecDepth 100000 in
theorem t_T_count (l : Launch) (D : va_G) (cM cG cI cJ : ClassId) (o am ag : Nat) (pm pg : Nat → Nat) (off : Int32) (nm ng : Nat) (now : Int32) (F : Nat → Nat → Int32) (R : Nat → Int32) (x : Int32) (hn20 : nm ≤ 20) (hg200 : ng ≤ 200) : Met l y_T_count (Cond.code y_T_count c_T_count 2 (some .int) :: tw_L) ({ frames := 3, cells := 0, slots := 0, locals := 65 } : Room) (pu_P (fun _ => va_P D cl_L (ws_C cM cG o am ag pm pg (off, nm, ng, now, F, R))) (yt_P D cM cG cI cJ) [.ref o, .int x]) (vp_Si (fun r => r = sp_ct (off, nm, ng, now, F, R) x)) 0 0 no_A := by
  refine Met.ofW (cc := c_T_count) (maxL := 2) (ret := (some .int)) (by decide) rfl ?_
  intro p e s m args below meth c s₁ B hml hv
  obtain ⟨rfl, hX, hY⟩ := hv
  have hx := B.exec
  have hb := B.bytes
  have hr := B.returns
  have htw : ∀ w ∈ tw_L, w.before _ s = true := fun w hw => atoms_spec (ws := (Cond.code y_T_count c_T_count 2 (some .int) :: tw_L)) B.pre w (List.mem_cons_of_mem _ hw)
  have hown : s.vm.findClass R_T = some m.cls := findClass_of_methodNamed B.named
  have hlocks := B.notSynchronized
  have hC : CallFix p m c c_T_count 2 s _ tw_L R_T := ⟨hx, hb, hml, hown, htw⟩
  have hK := hY.1
  have hl := lv_entry ([.ref o, .int x]) (n := 2) (Nat.le_of_ble_eq_true rfl)
  rw [lg_entry_eq]
  generalize (lg_sl ([.ref o, .int x]) ++ List.replicate (2 - (lg_sl ([.ref o, .int x])).length) Slot.unset).toArray = ls at hl ⊢
  have hl : lv_has ls 2 [(0, .ref o), (1, .int x)] := hl
  have hP := hX
  refine lv_iload_n hx hb d_T_count_0 rfl (lv_at hl 1 rfl) ?_
  by_cases e1 : x = 0
  · refine sk_as e1 ?_
    refine lv_tableIn (off := 47) (tgt := 48) hx hb d_T_count_1 (by decide) (by decide) rfl (by decide) ?_
    refine lv_aload_n hx hb d_T_count_48 rfl (lv_at hl 0 rfl) ?_
    refine va_get (D := D) (C := R_T) (T := F_T) (N := 6) hx hb htw uw_T hown hK hP 0 rfl rfl 0 (by decide) (htw _ k_T_31) (fun _ h9 => h9) rfl d_T_count_49 ?_
    exact W.iret (v := off) hx hb hr (fun t ht hW => ⟨_, rfl, (by simp only [sp_ct]; rw [if_pos e1]), ht⟩) (fun q h => nomatch h) d_T_count_52
  · by_cases e2 : x = 1
    · refine sk_as e2 ?_
      refine lv_tableIn (off := 52) (tgt := 53) hx hb d_T_count_1 (by decide) (by decide) rfl (by decide) ?_
      refine lv_aload_n hx hb d_T_count_53 rfl (lv_at hl 0 rfl) ?_
      refine va_get (D := D) (C := R_T) (T := F_T) (N := 6) hx hb htw uw_T hown hK hP 0 rfl rfl 3 (by decide) (htw _ k_T_21) (fun _ h9 => h9) rfl d_T_count_54 ?_
      exact W.iret (v := (nI nm)) hx hb hr (fun t ht hW => ⟨_, rfl, (by simp only [sp_ct]; rw [if_neg e1, if_pos e2]), ht⟩) (fun q h => nomatch h) d_T_count_57
    · by_cases e3 : x = 2
      · refine sk_as e3 ?_
        refine lv_tableIn (off := 57) (tgt := 58) hx hb d_T_count_1 (by decide) (by decide) rfl (by decide) ?_
        refine lv_aload_n hx hb d_T_count_58 rfl (lv_at hl 0 rfl) ?_
        refine va_get (D := D) (C := R_T) (T := F_T) (N := 6) hx hb htw uw_T hown hK hP 0 rfl rfl 4 (by decide) (htw _ k_T_25) (fun _ h9 => h9) rfl d_T_count_59 ?_
        exact W.iret (v := (nI ng)) hx hb hr (fun t ht hW => ⟨_, rfl, (by simp only [sp_ct]; rw [if_neg e1, if_neg e2, if_pos e3]), ht⟩) (fun q h => nomatch h) d_T_count_62
      · by_cases e4 : x = 3
        · refine sk_as e4 ?_
          refine lv_tableIn (off := 62) (tgt := 63) hx hb d_T_count_1 (by decide) (by decide) rfl (by decide) ?_
          refine lv_aload_n hx hb d_T_count_63 rfl (lv_at hl 0 rfl) ?_
          refine va_get (D := D) (C := R_T) (T := F_T) (N := 6) hx hb htw uw_T hown hK hP 0 rfl rfl 5 (by decide) (htw _ k_T_28) (fun _ h9 => h9) rfl d_T_count_64 ?_
          exact W.iret (v := now) hx hb hr (fun t ht hW => ⟨_, rfl, (by simp only [sp_ct]; rw [if_neg e1, if_neg e2, if_neg e3, if_pos e4]), ht⟩) (fun q h => nomatch h) d_T_count_67
        · by_cases e5 : x = 4
          · refine sk_as e5 ?_
            refine lv_tableIn (off := 67) (tgt := 68) hx hb d_T_count_1 (by decide) (by decide) rfl (by decide) ?_
            refine lv_aload_n hx hb d_T_count_68 rfl (lv_at hl 0 rfl) ?_
            refine lv_iload_n hx hb d_T_count_69 rfl (lv_at hl 1 rfl) ?_
            refine cp_V (n := 1) [.int x] hC (t_T_sumOverMovements l D cM cG cI cJ o am ag pm pg off nm ng now F R x hn20) ⟨kc_T_sumOverMovements, kn_T, k_T_207, ki_T_sumOverMovements, kv_T_sumOverMovements⟩ (by decide +kernel) ⟨rfl, rfl, Nat.le_of_ble_eq_true rfl, Nat.le_of_ble_eq_true rfl⟩ x_0 (yt_Y D cM cG cI cJ) hY hP (va_recv hK hP (ci := 0) (q0 := 0) rfl rfl) rfl hl.1 rfl (Nat.le_of_ble_eq_true rfl) d_T_count_70 ⟨Nat.le_of_ble_eq_true rfl, Nat.le_of_ble_eq_true rfl⟩ (fun r6 h7 => ?_)
            subst h7
            exact W.iret (v := (sm_I (fun i => sh_I F i x) nm)) hx hb hr (fun t ht hW => ⟨_, rfl, (by simp only [sp_ct]; rw [if_neg e1, if_neg e2, if_neg e3, if_neg e4, if_pos e5]; rw [e5]; rfl), ht⟩) (fun q h => nomatch h) d_T_count_73
          · by_cases e8 : x = 5
            · refine sk_as e8 ?_
              refine lv_tableIn (off := 67) (tgt := 68) hx hb d_T_count_1 (by decide) (by decide) rfl (by decide) ?_
              refine lv_aload_n hx hb d_T_count_68 rfl (lv_at hl 0 rfl) ?_
              refine lv_iload_n hx hb d_T_count_69 rfl (lv_at hl 1 rfl) ?_
              refine cp_V (n := 1) [.int x] hC (t_T_sumOverMovements l D cM cG cI cJ o am ag pm pg off nm ng now F R x hn20) ⟨kc_T_sumOverMovements, kn_T, k_T_207, ki_T_sumOverMovements, kv_T_sumOverMovements⟩ (by decide +kernel) ⟨rfl, rfl, Nat.le_of_ble_eq_true rfl, Nat.le_of_ble_eq_true rfl⟩ x_0 (yt_Y D cM cG cI cJ) hY hP (va_recv hK hP (ci := 0) (q0 := 0) rfl rfl) rfl hl.1 rfl (Nat.le_of_ble_eq_true rfl) d_T_count_70 ⟨Nat.le_of_ble_eq_true rfl, Nat.le_of_ble_eq_true rfl⟩ (fun r9 h10 => ?_)
              subst h10
              exact W.iret (v := (sm_I (fun i => sh_I F i x) nm)) hx hb hr (fun t ht hW => ⟨_, rfl, (by simp only [sp_ct]; rw [if_neg e1, if_neg e2, if_neg e3, if_neg e4, if_neg e5, if_pos e8]; rw [e8]; rfl), ht⟩) (fun q h => nomatch h) d_T_count_73
            · by_cases e11 : x = 6
              · refine sk_as e11 ?_
                refine lv_tableIn (off := 67) (tgt := 68) hx hb d_T_count_1 (by decide) (by decide) rfl (by decide) ?_
                refine lv_aload_n hx hb d_T_count_68 rfl (lv_at hl 0 rfl) ?_
                refine lv_iload_n hx hb d_T_count_69 rfl (lv_at hl 1 rfl) ?_
                refine cp_V (n := 1) [.int x] hC (t_T_sumOverMovements l D cM cG cI cJ o am ag pm pg off nm ng now F R x hn20) ⟨kc_T_sumOverMovements, kn_T, k_T_207, ki_T_sumOverMovements, kv_T_sumOverMovements⟩ (by decide +kernel) ⟨rfl, rfl, Nat.le_of_ble_eq_true rfl, Nat.le_of_ble_eq_true rfl⟩ x_0 (yt_Y D cM cG cI cJ) hY hP (va_recv hK hP (ci := 0) (q0 := 0) rfl rfl) rfl hl.1 rfl (Nat.le_of_ble_eq_true rfl) d_T_count_70 ⟨Nat.le_of_ble_eq_true rfl, Nat.le_of_ble_eq_true rfl⟩ (fun r12 h13 => ?_)
                subst h13
                exact W.iret (v := (sm_I (fun i => sh_I F i x) nm)) hx hb hr (fun t ht hW => ⟨_, rfl, (by simp only [sp_ct]; rw [if_neg e1, if_neg e2, if_neg e3, if_neg e4, if_neg e5, if_neg e8, if_pos e11]; rw [e11]; rfl), ht⟩) (fun q h => nomatch h) d_T_count_73
              · by_cases e14 : x = 7
                · refine sk_as e14 ?_
                  refine lv_tableIn (off := 73) (tgt := 74) hx hb d_T_count_1 (by decide) (by decide) rfl (by decide) ?_
                  refine lv_aload_n hx hb d_T_count_74 rfl (lv_at hl 0 rfl) ?_
                  refine cp_V (n := 0) [] hC (t_T_countOnTheirWay l D cM cG cI cJ o am ag pm pg off nm ng now F R hg200) ⟨kc_T_countOnTheirWay, kn_T, k_T_210, ki_T_countOnTheirWay, kv_T_countOnTheirWay⟩ (by decide +kernel) ⟨rfl, rfl, Nat.le_of_ble_eq_true rfl, Nat.le_of_ble_eq_true rfl⟩ x_0 (yt_Y D cM cG cI cJ) hY hP (va_recv hK hP (ci := 0) (q0 := 0) rfl rfl) rfl hl.1 rfl (Nat.le_of_ble_eq_true rfl) d_T_count_75 ⟨Nat.le_of_ble_eq_true rfl, Nat.le_of_ble_eq_true rfl⟩ (fun r15 h16 => ?_)
                  subst h16
                  exact W.iret (v := (sm_I (fun j => if R (7 * j + 6) = 0 then 1 else 0) ng)) hx hb hr (fun t ht hW => ⟨_, rfl, (by simp only [sp_ct]; rw [if_neg e1, if_neg e2, if_neg e3, if_neg e4, if_neg e5, if_neg e8, if_neg e11, if_pos e14]), ht⟩) (fun q h => nomatch h) d_T_count_78
                · refine lv_tableOut (tgt := 79) hx hb d_T_count_1 (by have := ne_I (n := 0) e1; have := ne_I (n := 1) e2; have := ne_I (n := 2) e3; have := ne_I (n := 3) e4; have := ne_I (n := 4) e5; have := ne_I (n := 5) e8; have := ne_I (n := 6) e11; have := ne_I (n := 7) e14; omega) (by decide) ?_
                  refine lv_iconst (v := (-1)) hx hb d_T_count_79 (by decide) ?_
                  exact W.iret (v := (-1)) hx hb hr (fun t ht hW => ⟨_, rfl, (by simp only [sp_ct]; rw [if_neg e1, if_neg e2, if_neg e3, if_neg e4, if_neg e5, if_neg e8, if_neg e11, if_neg e14]), ht⟩) (fun q h => nomatch h) d_T_count_80
