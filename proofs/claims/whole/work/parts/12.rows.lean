theorem ne_I {x k : Int32} {n : Int} (h : ¬ x = k) (hk : k.toInt = n := by rfl) : ¬ x.toInt = n := fun q => h (i_eq.mpr (by rw [q, hk]))
/-- the share of movement i in one of count's sums -/
def sh_I (F : Nat → Nat → Int32) (i : Nat) (w : Int32) : Int32 := if w = 4 then (if is_en (F 10 i) then 0 else F 5 i) else if w = 5 then F 12 i else if w = 6 then (if is_en (F 10 i) then 1 else 0) else 0
def du_V (j : Nat) : Int32 := if j = 0 then 10 else if j = 1 then 15 else if j = 2 then 20 else 40
/-- the static array of the four days -/
def sa_P (A : Nat → Prop) (U : State) (H : Heap) : Prop := ∃ t : Nat, va_Z "TransitSteps" "DUE_BEHIND_LIMIT" "[I" (.ref t) A U H ∧ va_T .int t 4 (fun j => .int (du_V j)) A U H
theorem sa_X {A : Nat → Prop} : is_X (sa_P A) := fun u U H hW h => by
  obtain ⟨t, h1, h2⟩ := h
  exact ⟨t, va_Z.moved hW.alike h1, va_T.moved hW.alike h2⟩
theorem sa_k {A B : Nat → Prop} {U : State} {H0 H : Heap} {locs : List Loc} (h : sa_P A U H0) (hS : va_S A H0 H locs) (hB : ∀ q, B q → A q) : sa_P B U H := by
  obtain ⟨t, h1, h2⟩ := h
  exact ⟨t, (va_Z.kept h1 hS.2.1).narrow hB, (va_T.kept h2 hS.2.1).narrow hB⟩
/-- the two statics that a throw reads -/
def sx_P (A : Nat → Prop) (U : State) (H : Heap) : Prop := vx_Zq Bundle.tN "UNASSIGNED_STACK" Bundle.steD A U H ∧ vx_Zq Bundle.tN "SUPPRESSED_SENTINEL" Bundle.listD A U H
theorem sx_X {A : Nat → Prop} : is_X (sx_P A) := fun u U H hW h => ⟨vx_Zq.moved hW.alike h.1, vx_Zq.moved hW.alike h.2⟩
theorem sx_k {A B : Nat → Prop} {U : State} {H0 H : Heap} {locs : List Loc} (h : sx_P A U H0) (hS : va_S A H0 H locs) (hB : ∀ q, B q → A q) : sx_P B U H := ⟨(vx_Zq.kept h.1 hS.2.1).narrow hB, (vx_Zq.kept h.2 hS.2.1).narrow hB⟩
set_option maxHeartbeats 4000000 in
set_option maxRecDepth 100000 in
theorem t_V_shareOfMissing (l : Launch) (D : va_G) (cM cG cI cJ : ClassId) (h : Nat) (F : Nat → Nat → Int32) (i : Nat) (h4 : ¬ F 4 i < 1) : Met l y_V_shareOfMissing (Cond.code y_V_shareOfMissing c_V_shareOfMissing 1 (some .int) :: tw_L) ({ frames := 1, cells := 0, slots := 0, locals := 20 } : Room) (pu_P (fun _ => va_P D cl_L [(h, .inr (1, mv_L F i))]) (yt_P D cM cG cI cJ) [.ref h]) (vp_Si (fun r => r = rv_I F i)) 0 0 no_A := by
  refine Met.ofW (cc := c_V_shareOfMissing) (maxL := 1) (ret := (some .int)) (by decide) rfl ?_
  intro p e s m args below meth c s₁ B hml hv
  obtain ⟨rfl, hX, hY⟩ := hv
  have hx := B.exec
  have hb := B.bytes
  have hr := B.returns
  have htw : ∀ w ∈ tw_L, w.before _ s = true := fun w hw => atoms_spec (ws := (Cond.code y_V_shareOfMissing c_V_shareOfMissing 1 (some .int) :: tw_L)) B.pre w (List.mem_cons_of_mem _ hw)
  have hown : s.vm.findClass R_V = some m.cls := findClass_of_methodNamed B.named
  have hlocks := B.notSynchronized
  have hC : CallFix p m c c_V_shareOfMissing 1 s _ tw_L R_V := ⟨hx, hb, hml, hown, htw⟩
  have hK := hY.1
  have hl := lv_entry ([.ref h]) (n := 1) (Nat.le_of_ble_eq_true rfl)
  rw [lg_entry_eq]
  generalize (lg_sl ([.ref h]) ++ List.replicate (1 - (lg_sl ([.ref h])).length) Slot.unset).toArray = ls at hl ⊢
  have hl : lv_has ls 1 [(0, .ref h)] := hl
  have hP := hX
  refine lv_aload_n hx hb d_V_shareOfMissing_0 rfl (lv_at hl 0 rfl) ?_
  refine va_get (D := D) (C := R_V) (T := F_V) (N := 19) hx hb htw uw_V hown hK hP 0 rfl rfl 4 (by decide) (htw _ k_V_64) (fun _ h9 => h9) rfl d_V_shareOfMissing_1 ?_
  refine lv_iconst (v := 1) hx hb d_V_shareOfMissing_4 (by decide) ?_
  refine lv_icmp_ge (tgt := 12) hx hb d_V_shareOfMissing_5 (by decide) (fun _ => ?_) (fun c1 => absurd (Int32.not_lt.mp h4) c1)
  refine lv_aload_n hx hb d_V_shareOfMissing_12 rfl (lv_at hl 0 rfl) ?_
  refine va_get (D := D) (C := R_V) (T := F_V) (N := 19) hx hb htw uw_V hown hK hP 0 rfl rfl 5 (by decide) (htw _ k_V_67) (fun _ h9 => h9) rfl d_V_shareOfMissing_13 ?_
  refine lv_aload_n hx hb d_V_shareOfMissing_16 rfl (lv_at hl 0 rfl) ?_
  refine cp_V (n := 0) [] hC (t_V_piecesLeft l D cM cG cI cJ h F i) ⟨kc_V_piecesLeft, kn_V, k_V_102, ki_V_piecesLeft, kv_V_piecesLeft⟩ (by decide +kernel) ⟨rfl, rfl, Nat.le_of_ble_eq_true rfl, Nat.le_of_ble_eq_true rfl⟩ x_0 (yt_Y D cM cG cI cJ) hY hP (va_recv hK hP (ci := 1) (q0 := 0) rfl rfl) rfl hl.1 rfl (Nat.le_of_ble_eq_true rfl) d_V_shareOfMissing_17 ⟨Nat.le_of_ble_eq_true rfl, Nat.le_of_ble_eq_true rfl⟩ (fun r2 h3 => ?_)
  subst h3
  refine lv_imul hx hb d_V_shareOfMissing_20 ?_
  refine lv_aload_n hx hb d_V_shareOfMissing_21 rfl (lv_at hl 0 rfl) ?_
  refine va_get (D := D) (C := R_V) (T := F_V) (N := 19) hx hb htw uw_V hown hK hP 0 rfl rfl 4 (by decide) (htw _ k_V_64) (fun _ h9 => h9) rfl d_V_shareOfMissing_22 ?_
  refine lv_iadd hx hb d_V_shareOfMissing_25 ?_
  refine lv_iconst (v := 1) hx hb d_V_shareOfMissing_26 (by decide) ?_
  refine lv_isub hx hb d_V_shareOfMissing_27 ?_
  refine lv_aload_n hx hb d_V_shareOfMissing_28 rfl (lv_at hl 0 rfl) ?_
  refine va_get (D := D) (C := R_V) (T := F_V) (N := 19) hx hb htw uw_V hown hK hP 0 rfl rfl 4 (by decide) (htw _ k_V_64) (fun _ h9 => h9) rfl d_V_shareOfMissing_29 ?_
  refine lv_idiv hx hb d_V_shareOfMissing_32 (fun q => h4 (by rw [q]; decide)) ?_
  exact W.iret (v := (((((F 5 i) * (F 4 i - F 11 i)) + (F 4 i)) - 1) / (F 4 i))) hx hb hr (fun t ht hW => ⟨_, rfl, rfl, ht⟩) (fun q h => nomatch h) d_V_shareOfMissing_33
set_option maxHeartbeats 4000000 in
set_option maxRecDepth 100000 in
theorem t_V_shareInSum (l : Launch) (D : va_G) (cM cG cI cJ : ClassId) (h : Nat) (F : Nat → Nat → Int32) (i : Nat) (x : Int32) : Met l y_V_shareInSum (Cond.code y_V_shareInSum c_V_shareInSum 2 (some .int) :: tw_L) ({ frames := 1, cells := 0, slots := 0, locals := 20 } : Room) (pu_P (fun _ => va_P D cl_L [(h, .inr (1, mv_L F i))]) (yt_P D cM cG cI cJ) [.ref h, .int x]) (vp_Si (fun r => r = sh_I F i x)) 0 0 no_A := by
  refine Met.ofW (cc := c_V_shareInSum) (maxL := 2) (ret := (some .int)) (by decide) rfl ?_
  intro p e s m args below meth c s₁ B hml hv
  obtain ⟨rfl, hX, hY⟩ := hv
  have hx := B.exec
  have hb := B.bytes
  have hr := B.returns
  have htw : ∀ w ∈ tw_L, w.before _ s = true := fun w hw => atoms_spec (ws := (Cond.code y_V_shareInSum c_V_shareInSum 2 (some .int) :: tw_L)) B.pre w (List.mem_cons_of_mem _ hw)
  have hown : s.vm.findClass R_V = some m.cls := findClass_of_methodNamed B.named
  have hlocks := B.notSynchronized
  have hC : CallFix p m c c_V_shareInSum 2 s _ tw_L R_V := ⟨hx, hb, hml, hown, htw⟩
  have hK := hY.1
  have hl := lv_entry ([.ref h, .int x]) (n := 2) (Nat.le_of_ble_eq_true rfl)
  rw [lg_entry_eq]
  generalize (lg_sl ([.ref h, .int x]) ++ List.replicate (2 - (lg_sl ([.ref h, .int x])).length) Slot.unset).toArray = ls at hl ⊢
  have hl : lv_has ls 2 [(0, .ref h), (1, .int x)] := hl
  have hP := hX
  refine lv_iload_n hx hb d_V_shareInSum_0 rfl (lv_at hl 1 rfl) ?_
  by_cases e1 : x = 4
  · refine sk_as e1 ?_
    refine lv_tableIn (off := 27) (tgt := 28) hx hb d_V_shareInSum_1 (by decide) (by decide) rfl (by decide) ?_
    refine lv_aload_n hx hb d_V_shareInSum_28 rfl (lv_at hl 0 rfl) ?_
    refine cp_V (n := 0) [] hC (t_V_hasEnded l D cM cG cI cJ h F i) ⟨kc_V_hasEnded, kn_V, k_V_70, ki_V_hasEnded, kv_V_hasEnded⟩ (by decide +kernel) ⟨rfl, rfl, Nat.le_of_ble_eq_true rfl, Nat.le_of_ble_eq_true rfl⟩ x_0 (yt_Y D cM cG cI cJ) hY hP (va_recv hK hP (ci := 1) (q0 := 0) rfl rfl) rfl hl.1 rfl (Nat.le_of_ble_eq_true rfl) d_V_shareInSum_29 ⟨Nat.le_of_ble_eq_true rfl, Nat.le_of_ble_eq_true rfl⟩ (fun r2 h3 => ?_)
    rcases h3 with ⟨rfl, b4⟩ | ⟨rfl, b4⟩
    · have b4 : is_en (F 10 i) := b4
      refine lv_if_eq (tgt := 39) hx hb d_V_shareInSum_32 (by decide) (fun q9 => absurd q9 (by decide)) (fun _ => ?_)
      refine lv_iconst (v := 0) hx hb d_V_shareInSum_35 (by decide) ?_
      refine lv_goto (tgt := 43) hx hb d_V_shareInSum_36 (by decide) ?_
      exact W.iret (v := 0) hx hb hr (fun t ht hW => ⟨_, rfl, (by simp [sh_I, e1, b4]), ht⟩) (fun q h => nomatch h) d_V_shareInSum_43
    · have b4 : ¬ is_en (F 10 i) := b4
      refine lv_if_eq (tgt := 39) hx hb d_V_shareInSum_32 (by decide) (fun _ => ?_) (fun q9 => absurd rfl q9)
      refine lv_aload_n hx hb d_V_shareInSum_39 rfl (lv_at hl 0 rfl) ?_
      refine va_get (D := D) (C := R_V) (T := F_V) (N := 19) hx hb htw uw_V hown hK hP 0 rfl rfl 5 (by decide) (htw _ k_V_67) (fun _ h9 => h9) rfl d_V_shareInSum_40 ?_
      exact W.iret (v := (F 5 i)) hx hb hr (fun t ht hW => ⟨_, rfl, (by simp [sh_I, e1, b4]), ht⟩) (fun q h => nomatch h) d_V_shareInSum_43
  · by_cases e5 : x = 5
    · refine sk_as e5 ?_
      refine lv_tableIn (off := 43) (tgt := 44) hx hb d_V_shareInSum_1 (by decide) (by decide) rfl (by decide) ?_
      refine lv_aload_n hx hb d_V_shareInSum_44 rfl (lv_at hl 0 rfl) ?_
      refine va_get (D := D) (C := R_V) (T := F_V) (N := 19) hx hb htw uw_V hown hK hP 0 rfl rfl 12 (by decide) (htw _ k_V_31) (fun _ h9 => h9) rfl d_V_shareInSum_45 ?_
      exact W.iret (v := (F 12 i)) hx hb hr (fun t ht hW => ⟨_, rfl, (by simp [sh_I, e5, e1]), ht⟩) (fun q h => nomatch h) d_V_shareInSum_48
    · by_cases e6 : x = 6
      · refine sk_as e6 ?_
        refine lv_tableIn (off := 48) (tgt := 49) hx hb d_V_shareInSum_1 (by decide) (by decide) rfl (by decide) ?_
        refine lv_aload_n hx hb d_V_shareInSum_49 rfl (lv_at hl 0 rfl) ?_
        refine cp_V (n := 0) [] hC (t_V_hasEnded l D cM cG cI cJ h F i) ⟨kc_V_hasEnded, kn_V, k_V_70, ki_V_hasEnded, kv_V_hasEnded⟩ (by decide +kernel) ⟨rfl, rfl, Nat.le_of_ble_eq_true rfl, Nat.le_of_ble_eq_true rfl⟩ x_0 (yt_Y D cM cG cI cJ) hY hP (va_recv hK hP (ci := 1) (q0 := 0) rfl rfl) rfl hl.1 rfl (Nat.le_of_ble_eq_true rfl) d_V_shareInSum_50 ⟨Nat.le_of_ble_eq_true rfl, Nat.le_of_ble_eq_true rfl⟩ (fun r7 h8 => ?_)
        rcases h8 with ⟨rfl, b9⟩ | ⟨rfl, b9⟩
        · have b9 : is_en (F 10 i) := b9
          refine cp_SN (n := 1) [.int 1] hC (t_T_bit l D cM cG cI cJ 1) ⟨kc_T_bit, kn_T, ks_T_bit⟩ hY.2.1 (by decide +kernel) ⟨rfl, rfl, Nat.le_of_ble_eq_true rfl, Nat.le_of_ble_eq_true rfl⟩ x_0 (yt_Y D cM cG cI cJ) hY trivial rfl hl.1 rfl (Nat.le_of_ble_eq_true rfl) d_V_shareInSum_53 ⟨Nat.le_of_ble_eq_true rfl, Nat.le_of_ble_eq_true rfl⟩ (fun r10 h11 => ?_)
          obtain rfl : r10 = 1 := by rcases h11 with ⟨q, q2⟩ | ⟨q, q2⟩ <;> simp_all
          exact W.iret (v := 1) hx hb hr (fun t ht hW => ⟨_, rfl, (by simp [sh_I, e6, e1, e5, b9]), ht⟩) (fun q h => nomatch h) d_V_shareInSum_56
        · have b9 : ¬ is_en (F 10 i) := b9
          refine cp_SN (n := 1) [.int 0] hC (t_T_bit l D cM cG cI cJ 0) ⟨kc_T_bit, kn_T, ks_T_bit⟩ hY.2.1 (by decide +kernel) ⟨rfl, rfl, Nat.le_of_ble_eq_true rfl, Nat.le_of_ble_eq_true rfl⟩ x_0 (yt_Y D cM cG cI cJ) hY trivial rfl hl.1 rfl (Nat.le_of_ble_eq_true rfl) d_V_shareInSum_53 ⟨Nat.le_of_ble_eq_true rfl, Nat.le_of_ble_eq_true rfl⟩ (fun r12 h13 => ?_)
          obtain rfl : r12 = 0 := by rcases h13 with ⟨q, q2⟩ | ⟨q, q2⟩ <;> simp_all
          exact W.iret (v := 0) hx hb hr (fun t ht hW => ⟨_, rfl, (by simp [sh_I, e6, e1, e5, b9]), ht⟩) (fun q h => nomatch h) d_V_shareInSum_56
      · refine lv_tableOut (tgt := 57) hx hb d_V_shareInSum_1 (by have := ne_I (n := 4) e1; have := ne_I (n := 5) e5; have := ne_I (n := 6) e6; omega) (by decide) ?_
        refine lv_iconst (v := 0) hx hb d_V_shareInSum_57 (by decide) ?_
        exact W.iret (v := 0) hx hb hr (fun t ht hW => ⟨_, rfl, (by simp [sh_I, e1, e5, e6]), ht⟩) (fun q h => nomatch h) d_V_shareInSum_58
set_option maxHeartbeats 4000000 in
set_option maxRecDepth 100000 in
theorem t_V_learnArrival (l : Launch) (D : va_G) (cM cG cI cJ : ClassId) (h : Nat) (F : Nat → Nat → Int32) (i : Nat) (sz : Nat) (a : Int32) (b : Int32) : Met l y_V_learnArrival (Cond.code y_V_learnArrival c_V_learnArrival 3 none :: tw_L) ({ frames := 1, cells := 0, slots := 0, locals := 20 } : Room) (mu_P D [(h, .inr (1, mv_L F i))] sz (fun _ _ => True) (yt_P D cM cG cI cJ) [.ref h, .int a, .int b]) (va_Qv (fun _ : Unit => True) (mu_B D [(h, .inr (1, mv_L F i))] sz (fun _ => [(h, .inr (1, mv_L (la_F F i a b) i))])) (va_A [(h, .inr (1, mv_L F i))] sz)) 0 0 (va_A [(h, .inr (1, mv_L F i))] sz) := by
  refine Met.ofW (cc := c_V_learnArrival) (maxL := 3) (ret := none) (by decide) rfl ?_
  intro p e s m args below meth c s₁ B hml hv
  obtain ⟨rfl, hsz, hP, hD0, hX, hY⟩ := hv
  have hx := B.exec
  have hb := B.bytes
  have hr := B.returns
  have htw : ∀ w ∈ tw_L, w.before _ s = true := fun w hw => atoms_spec (ws := (Cond.code y_V_learnArrival c_V_learnArrival 3 none :: tw_L)) B.pre w (List.mem_cons_of_mem _ hw)
  have hown : s.vm.findClass R_V = some m.cls := findClass_of_methodNamed B.named
  have hlocks := B.notSynchronized
  have hC : CallFix p m c c_V_learnArrival 3 s _ tw_L R_V := ⟨hx, hb, hml, hown, htw⟩
  have hK := hY.1
  have hl := lv_entry ([.ref h, .int a, .int b]) (n := 3) (Nat.le_of_ble_eq_true rfl)
  rw [lg_entry_eq]
  generalize (lg_sl ([.ref h, .int a, .int b]) ++ List.replicate (3 - (lg_sl ([.ref h, .int a, .int b])).length) Slot.unset).toArray = ls at hl ⊢
  have hl : lv_has ls 3 [(0, .ref h), (1, .int a), (2, .int b)] := hl
  subst hsz
  obtain ⟨A, hAe⟩ : ∃ A : Nat → Prop, A = va_A [(h, .inr (1, mv_L F i))] s.heap.size := ⟨_, rfl⟩
  have hD : va_D A [(h, .inr (1, mv_L F i))] := by rw [hAe]; exact hD0.self
  have hA : ∀ q : Nat, s.heap.size ≤ q → A q := fun q h => by rw [hAe]; exact Or.inr h
  have hS : va_S A s.heap s.heap [] := va_S.rf
  refine lv_aload_n hx hb d_V_learnArrival_0 rfl (lv_at hl 0 rfl) ?_
  refine lv_iload_n hx hb d_V_learnArrival_1 rfl (lv_at hl 1 rfl) ?_
  refine va_put (D := D) (ci := 1) (v := .int a) (ty := .int) (C := R_V) (T := F_V) (N := 19) hx hb htw uw_V ft_V tk_V n_V hown hK hP hD hS 0 rfl rfl 14 (by decide) (htw _ k_V_37) (fun _ h9 => h9) rfl (by decide +kernel) rfl rfl (Nat.le_of_ble_eq_true rfl) d_V_learnArrival_2 (fun H locs hP hD hS => ?_)
  have e_n : (mv_L F i).set 14 (.int a) = mv_L (up_F F 14 i a) i := mv_up _ _ _ 14 (by decide)
  have hP : va_P D cl_L [(h, .inr (1, mv_L (up_F F 14 i a) i))] H := by rw [← e_n]; exact hP
  have hD : va_D A [(h, .inr (1, mv_L (up_F F 14 i a) i))] := by rw [← e_n]; exact hD
  refine lv_aload_n hx hb d_V_learnArrival_5 rfl (lv_at hl 0 rfl) ?_
  refine lv_iload_n hx hb d_V_learnArrival_6 rfl (lv_at hl 2 rfl) ?_
  refine va_put (D := D) (ci := 1) (v := .int b) (ty := .int) (C := R_V) (T := F_V) (N := 19) hx hb htw uw_V ft_V tk_V n_V hown hK hP hD hS 0 rfl rfl 15 (by decide) (htw _ k_V_40) (fun _ h9 => h9) rfl (by decide +kernel) rfl rfl (Nat.le_of_ble_eq_true rfl) d_V_learnArrival_7 (fun H locs hP hD hS => ?_)
  have e_n : (mv_L (up_F F 14 i a) i).set 15 (.int b) = mv_L (up_F (up_F F 14 i a) 15 i b) i := mv_up _ _ _ 15 (by decide)
  have hP : va_P D cl_L [(h, .inr (1, mv_L (up_F (up_F F 14 i a) 15 i b) i))] H := by rw [← e_n]; exact hP
  have hD : va_D A [(h, .inr (1, mv_L (up_F (up_F F 14 i a) 15 i b) i))] := by rw [← e_n]; exact hD
  refine lv_aload_n hx hb d_V_learnArrival_10 rfl (lv_at hl 0 rfl) ?_
  refine cp_V (n := 0) [] hC (t_V_isAwaited l D cM cG cI cJ h (up_F (up_F F 14 i a) 15 i b) i) ⟨kc_V_isAwaited, kn_V, k_V_86, ki_V_isAwaited, kv_V_isAwaited⟩ (by decide +kernel) ⟨rfl, rfl, Nat.le_of_ble_eq_true rfl, Nat.le_of_ble_eq_true rfl⟩ x_0 (yt_Y D cM cG cI cJ) hY hP (va_recv hK hP (ci := 1) (q0 := 0) rfl rfl) rfl hl.1 rfl (Nat.le_of_ble_eq_true rfl) d_V_learnArrival_11 ⟨Nat.le_of_ble_eq_true rfl, Nat.le_of_ble_eq_true rfl⟩ (fun r1 h2 => ?_)
  rcases h2 with ⟨rfl, b3⟩ | ⟨rfl, b3⟩
  · have b3 : is_aw (F 10 i) := b3
    refine lv_if_eq (tgt := 22) hx hb d_V_learnArrival_14 (by decide) (fun q9 => absurd q9 (by decide)) (fun _ => ?_)
    refine lv_aload_n hx hb d_V_learnArrival_17 rfl (lv_at hl 0 rfl) ?_
    refine lv_iconst (v := 2) hx hb d_V_learnArrival_18 (by decide) ?_
    refine va_put (D := D) (ci := 1) (v := .int 2) (ty := .int) (C := R_V) (T := F_V) (N := 19) hx hb htw uw_V ft_V tk_V n_V hown hK hP hD hS 0 rfl rfl 10 (by decide) (htw _ k_V_25) (fun _ h9 => h9) rfl (by decide +kernel) rfl rfl (Nat.le_of_ble_eq_true rfl) d_V_learnArrival_19 (fun H locs hP hD hS => ?_)
    have e_n : (mv_L (up_F (up_F F 14 i a) 15 i b) i).set 10 (.int 2) = mv_L (up_F (up_F (up_F F 14 i a) 15 i b) 10 i 2) i := mv_up _ _ _ 10 (by decide)
    have hP : va_P D cl_L [(h, .inr (1, mv_L (up_F (up_F (up_F F 14 i a) 15 i b) 10 i 2) i))] H := by rw [← e_n]; exact hP
    have hD : va_D A [(h, .inr (1, mv_L (up_F (up_F (up_F F 14 i a) 15 i b) 10 i 2) i))] := by rw [← e_n]; exact hD
    subst hAe
    have e_F : la_F F i a b = up_F (up_F (up_F F 14 i a) 15 i b) 10 i 2 := by unfold la_F; rw [if_pos b3]
    exact W.vret hx hb hr (fun t ht hW => ⟨⟨(), rfl, trivial, by rw [ht, e_F]; exact hP, by rw [e_F]; exact hD⟩, hS.F ht⟩) hS.2.2 d_V_learnArrival_22
  · have b3 : ¬ is_aw (F 10 i) := b3
    refine lv_if_eq (tgt := 22) hx hb d_V_learnArrival_14 (by decide) (fun _ => ?_) (fun q9 => absurd rfl q9)
    subst hAe
    have e_F : la_F F i a b = up_F (up_F F 14 i a) 15 i b := by unfold la_F; rw [if_neg b3]
    exact W.vret hx hb hr (fun t ht hW => ⟨⟨(), rfl, trivial, by rw [ht, e_F]; exact hP, by rw [e_F]; exact hD⟩, hS.F ht⟩) hS.2.2 d_V_learnArrival_22
set_option maxHeartbeats 4000000 in
set_option maxRecDepth 100000 in
theorem t_V_learnResult (l : Launch) (D : va_G) (cM cG cI cJ : ClassId) (h : Nat) (F : Nat → Nat → Int32) (i : Nat) (sz : Nat) (a : Int32) (b : Int32) : Met l y_V_learnResult (Cond.code y_V_learnResult c_V_learnResult 3 none :: tw_L) ({ frames := 1, cells := 0, slots := 0, locals := 21 } : Room) (mu_P D [(h, .inr (1, mv_L F i))] sz (fun _ _ => True) (yt_P D cM cG cI cJ) [.ref h, .int a, .int b]) (va_Qv (fun _ : Unit => True) (mu_B D [(h, .inr (1, mv_L F i))] sz (fun _ => [(h, .inr (1, mv_L (lr_F F i a b) i))])) (va_A [(h, .inr (1, mv_L F i))] sz)) 0 0 (va_A [(h, .inr (1, mv_L F i))] sz) := by
  refine Met.ofW (cc := c_V_learnResult) (maxL := 3) (ret := none) (by decide) rfl ?_
  intro p e s m args below meth c s₁ B hml hv
  obtain ⟨rfl, hsz, hP, hD0, hX, hY⟩ := hv
  have hx := B.exec
  have hb := B.bytes
  have hr := B.returns
  have htw : ∀ w ∈ tw_L, w.before _ s = true := fun w hw => atoms_spec (ws := (Cond.code y_V_learnResult c_V_learnResult 3 none :: tw_L)) B.pre w (List.mem_cons_of_mem _ hw)
  have hown : s.vm.findClass R_V = some m.cls := findClass_of_methodNamed B.named
  have hlocks := B.notSynchronized
  have hC : CallFix p m c c_V_learnResult 3 s _ tw_L R_V := ⟨hx, hb, hml, hown, htw⟩
  have hK := hY.1
  have hl := lv_entry ([.ref h, .int a, .int b]) (n := 3) (Nat.le_of_ble_eq_true rfl)
  rw [lg_entry_eq]
  generalize (lg_sl ([.ref h, .int a, .int b]) ++ List.replicate (3 - (lg_sl ([.ref h, .int a, .int b])).length) Slot.unset).toArray = ls at hl ⊢
  have hl : lv_has ls 3 [(0, .ref h), (1, .int a), (2, .int b)] := hl
  subst hsz
  obtain ⟨A, hAe⟩ : ∃ A : Nat → Prop, A = va_A [(h, .inr (1, mv_L F i))] s.heap.size := ⟨_, rfl⟩
  have hD : va_D A [(h, .inr (1, mv_L F i))] := by rw [hAe]; exact hD0.self
  have hA : ∀ q : Nat, s.heap.size ≤ q → A q := fun q h => by rw [hAe]; exact Or.inr h
  have hS : va_S A s.heap s.heap [] := va_S.rf
  refine lv_aload_n hx hb d_V_learnResult_0 rfl (lv_at hl 0 rfl) ?_
  refine lv_iload_n hx hb d_V_learnResult_1 rfl (lv_at hl 1 rfl) ?_
  refine va_put (D := D) (ci := 1) (v := .int a) (ty := .int) (C := R_V) (T := F_V) (N := 19) hx hb htw uw_V ft_V tk_V n_V hown hK hP hD hS 0 rfl rfl 16 (by decide) (htw _ k_V_43) (fun _ h9 => h9) rfl (by decide +kernel) rfl rfl (Nat.le_of_ble_eq_true rfl) d_V_learnResult_2 (fun H locs hP hD hS => ?_)
  have e_n : (mv_L F i).set 16 (.int a) = mv_L (up_F F 16 i a) i := mv_up _ _ _ 16 (by decide)
  have hP : va_P D cl_L [(h, .inr (1, mv_L (up_F F 16 i a) i))] H := by rw [← e_n]; exact hP
  have hD : va_D A [(h, .inr (1, mv_L (up_F F 16 i a) i))] := by rw [← e_n]; exact hD
  refine lv_aload_n hx hb d_V_learnResult_5 rfl (lv_at hl 0 rfl) ?_
  refine lv_iload_n hx hb d_V_learnResult_6 rfl (lv_at hl 2 rfl) ?_
  refine va_put (D := D) (ci := 1) (v := .int b) (ty := .int) (C := R_V) (T := F_V) (N := 19) hx hb htw uw_V ft_V tk_V n_V hown hK hP hD hS 0 rfl rfl 14 (by decide) (htw _ k_V_37) (fun _ h9 => h9) rfl (by decide +kernel) rfl rfl (Nat.le_of_ble_eq_true rfl) d_V_learnResult_7 (fun H locs hP hD hS => ?_)
  have e_n : (mv_L (up_F F 16 i a) i).set 14 (.int b) = mv_L (up_F (up_F F 16 i a) 14 i b) i := mv_up _ _ _ 14 (by decide)
  have hP : va_P D cl_L [(h, .inr (1, mv_L (up_F (up_F F 16 i a) 14 i b) i))] H := by rw [← e_n]; exact hP
  have hD : va_D A [(h, .inr (1, mv_L (up_F (up_F F 16 i a) 14 i b) i))] := by rw [← e_n]; exact hD
  refine lv_aload_n hx hb d_V_learnResult_10 rfl (lv_at hl 0 rfl) ?_
  refine cp_V (n := 0) [] hC (t_V_hasEnded l D cM cG cI cJ h (up_F (up_F F 16 i a) 14 i b) i) ⟨kc_V_hasEnded, kn_V, k_V_70, ki_V_hasEnded, kv_V_hasEnded⟩ (by decide +kernel) ⟨rfl, rfl, Nat.le_of_ble_eq_true rfl, Nat.le_of_ble_eq_true rfl⟩ x_0 (yt_Y D cM cG cI cJ) hY hP (va_recv hK hP (ci := 1) (q0 := 0) rfl rfl) rfl hl.1 rfl (Nat.le_of_ble_eq_true rfl) d_V_learnResult_11 ⟨Nat.le_of_ble_eq_true rfl, Nat.le_of_ble_eq_true rfl⟩ (fun r1 h2 => ?_)
  rcases h2 with ⟨rfl, b3⟩ | ⟨rfl, b3⟩
  · have b3 : is_en (F 10 i) := b3
    refine lv_if_eq (tgt := 18) hx hb d_V_learnResult_14 (by decide) (fun q9 => absurd q9 (by decide)) (fun _ => ?_)
    subst hAe
    have e_F : lr_F F i a b = up_F (up_F F 16 i a) 14 i b := by unfold lr_F; rw [if_pos b3]
    exact W.vret hx hb hr (fun t ht hW => ⟨⟨(), rfl, trivial, by rw [ht, e_F]; exact hP, by rw [e_F]; exact hD⟩, hS.F ht⟩) hS.2.2 d_V_learnResult_17
  · have b3 : ¬ is_en (F 10 i) := b3
    refine lv_if_eq (tgt := 18) hx hb d_V_learnResult_14 (by decide) (fun _ => ?_) (fun q9 => absurd rfl q9)
    refine lv_aload_n hx hb d_V_learnResult_18 rfl (lv_at hl 0 rfl) ?_
    refine lv_aload_n hx hb d_V_learnResult_19 rfl (lv_at hl 0 rfl) ?_
    refine va_get (D := D) (C := R_V) (T := F_V) (N := 19) hx hb htw uw_V hown hK hP 0 rfl rfl 11 (by decide) (htw _ k_V_28) (fun _ h9 => h9) rfl d_V_learnResult_20 ?_
    refine lv_iload_n hx hb d_V_learnResult_23 rfl (lv_at hl 1 rfl) ?_
    refine lv_aload_n hx hb d_V_learnResult_24 rfl (lv_at hl 0 rfl) ?_
    refine va_get (D := D) (C := R_V) (T := F_V) (N := 19) hx hb htw uw_V hown hK hP 0 rfl rfl 4 (by decide) (htw _ k_V_64) (fun _ h9 => h9) rfl d_V_learnResult_25 ?_
    refine va_mmin hx hb (hml.trans hl.1.symm) hown (htw _ k_V_89) (htw _ ks_min) (htw _ kn_Math) (htw _ kc_min) (Nat.le_of_ble_eq_true rfl) (Nat.le_of_ble_eq_true rfl) (Nat.le_of_ble_eq_true rfl) (Nat.le_of_ble_eq_true rfl) d_V_learnResult_28 ?_
    refine va_mmax hx hb (hml.trans hl.1.symm) hown (htw _ k_V_95) (htw _ ks_max) (htw _ kn_Math) (htw _ kc_max) (Nat.le_of_ble_eq_true rfl) (Nat.le_of_ble_eq_true rfl) (Nat.le_of_ble_eq_true rfl) (Nat.le_of_ble_eq_true rfl) d_V_learnResult_31 ?_
    refine va_put (D := D) (ci := 1) (v := .int (mx_I (F 11 i) (mn_I a (F 4 i)))) (ty := .int) (C := R_V) (T := F_V) (N := 19) hx hb htw uw_V ft_V tk_V n_V hown hK hP hD hS 0 rfl rfl 11 (by decide) (htw _ k_V_28) (fun _ h9 => h9) rfl (by decide +kernel) rfl rfl (Nat.le_of_ble_eq_true rfl) d_V_learnResult_34 (fun H locs hP hD hS => ?_)
    have e_n : (mv_L (up_F (up_F F 16 i a) 14 i b) i).set 11 (.int (mx_I (F 11 i) (mn_I a (F 4 i)))) = mv_L (up_F (up_F (up_F F 16 i a) 14 i b) 11 i (mx_I (F 11 i) (mn_I a (F 4 i)))) i := mv_up _ _ _ 11 (by decide)
    have hP : va_P D cl_L [(h, .inr (1, mv_L (up_F (up_F (up_F F 16 i a) 14 i b) 11 i (mx_I (F 11 i) (mn_I a (F 4 i)))) i))] H := by rw [← e_n]; exact hP
    have hD : va_D A [(h, .inr (1, mv_L (up_F (up_F (up_F F 16 i a) 14 i b) 11 i (mx_I (F 11 i) (mn_I a (F 4 i)))) i))] := by rw [← e_n]; exact hD
    refine lv_aload_n hx hb d_V_learnResult_37 rfl (lv_at hl 0 rfl) ?_
    refine lv_iload_n hx hb d_V_learnResult_38 rfl (lv_at hl 2 rfl) ?_
    refine lv_aload_n hx hb d_V_learnResult_39 rfl (lv_at hl 0 rfl) ?_
    refine va_get (D := D) (C := R_V) (T := F_V) (N := 19) hx hb htw uw_V hown hK hP 0 rfl rfl 3 (by decide) (htw _ k_V_61) (fun _ h9 => h9) rfl d_V_learnResult_40 ?_
    refine lv_icmp_ne (tgt := 59) hx hb d_V_learnResult_43 (by decide) (fun c4 => ?_) (fun c4 => ?_)
    · refine lv_iconst (v := 3) hx hb d_V_learnResult_59 (by decide) ?_
      refine va_put (D := D) (ci := 1) (v := .int 3) (ty := .int) (C := R_V) (T := F_V) (N := 19) hx hb htw uw_V ft_V tk_V n_V hown hK hP hD hS 0 rfl rfl 10 (by decide) (htw _ k_V_25) (fun _ h9 => h9) rfl (by decide +kernel) rfl rfl (Nat.le_of_ble_eq_true rfl) d_V_learnResult_60 (fun H locs hP hD hS => ?_)
      have e_n : (mv_L (up_F (up_F (up_F F 16 i a) 14 i b) 11 i (mx_I (F 11 i) (mn_I a (F 4 i)))) i).set 10 (.int 3) = mv_L (up_F (up_F (up_F (up_F F 16 i a) 14 i b) 11 i (mx_I (F 11 i) (mn_I a (F 4 i)))) 10 i 3) i := mv_up _ _ _ 10 (by decide)
      have hP : va_P D cl_L [(h, .inr (1, mv_L (up_F (up_F (up_F (up_F F 16 i a) 14 i b) 11 i (mx_I (F 11 i) (mn_I a (F 4 i)))) 10 i 3) i))] H := by rw [← e_n]; exact hP
      have hD : va_D A [(h, .inr (1, mv_L (up_F (up_F (up_F (up_F F 16 i a) 14 i b) 11 i (mx_I (F 11 i) (mn_I a (F 4 i)))) 10 i 3) i))] := by rw [← e_n]; exact hD
      subst hAe
      have e_F : lr_F F i a b = up_F (up_F (up_F (up_F F 16 i a) 14 i b) 11 i (mx_I (F 11 i) (mn_I a (F 4 i)))) 10 i 3 := by unfold lr_F; rw [if_neg b3, if_neg (fun q => c4 q.1)]
      exact W.vret hx hb hr (fun t ht hW => ⟨⟨(), rfl, trivial, by rw [ht, e_F]; exact hP, by rw [e_F]; exact hD⟩, hS.F ht⟩) hS.2.2 d_V_learnResult_63
    · refine lv_iload_n hx hb d_V_learnResult_46 rfl (lv_at hl 1 rfl) ?_
      refine lv_aload_n hx hb d_V_learnResult_47 rfl (lv_at hl 0 rfl) ?_
      refine va_get (D := D) (C := R_V) (T := F_V) (N := 19) hx hb htw uw_V hown hK hP 0 rfl rfl 4 (by decide) (htw _ k_V_64) (fun _ h9 => h9) rfl d_V_learnResult_48 ?_
      refine lv_icmp_ne (tgt := 59) hx hb d_V_learnResult_51 (by decide) (fun c5 => ?_) (fun c5 => ?_)
      · refine lv_iconst (v := 3) hx hb d_V_learnResult_59 (by decide) ?_
        refine va_put (D := D) (ci := 1) (v := .int 3) (ty := .int) (C := R_V) (T := F_V) (N := 19) hx hb htw uw_V ft_V tk_V n_V hown hK hP hD hS 0 rfl rfl 10 (by decide) (htw _ k_V_25) (fun _ h9 => h9) rfl (by decide +kernel) rfl rfl (Nat.le_of_ble_eq_true rfl) d_V_learnResult_60 (fun H locs hP hD hS => ?_)
        have e_n : (mv_L (up_F (up_F (up_F F 16 i a) 14 i b) 11 i (mx_I (F 11 i) (mn_I a (F 4 i)))) i).set 10 (.int 3) = mv_L (up_F (up_F (up_F (up_F F 16 i a) 14 i b) 11 i (mx_I (F 11 i) (mn_I a (F 4 i)))) 10 i 3) i := mv_up _ _ _ 10 (by decide)
        have hP : va_P D cl_L [(h, .inr (1, mv_L (up_F (up_F (up_F (up_F F 16 i a) 14 i b) 11 i (mx_I (F 11 i) (mn_I a (F 4 i)))) 10 i 3) i))] H := by rw [← e_n]; exact hP
        have hD : va_D A [(h, .inr (1, mv_L (up_F (up_F (up_F (up_F F 16 i a) 14 i b) 11 i (mx_I (F 11 i) (mn_I a (F 4 i)))) 10 i 3) i))] := by rw [← e_n]; exact hD
        subst hAe
        have e_F : lr_F F i a b = up_F (up_F (up_F (up_F F 16 i a) 14 i b) 11 i (mx_I (F 11 i) (mn_I a (F 4 i)))) 10 i 3 := by unfold lr_F; rw [if_neg b3, if_neg (fun q => c5 q.2)]
        exact W.vret hx hb hr (fun t ht hW => ⟨⟨(), rfl, trivial, by rw [ht, e_F]; exact hP, by rw [e_F]; exact hD⟩, hS.F ht⟩) hS.2.2 d_V_learnResult_63
      · refine lv_bipush (v := 6) hx hb d_V_learnResult_54 (by decide) ?_
        refine lv_goto (tgt := 60) hx hb d_V_learnResult_56 (by decide) ?_
        refine va_put (D := D) (ci := 1) (v := .int 6) (ty := .int) (C := R_V) (T := F_V) (N := 19) hx hb htw uw_V ft_V tk_V n_V hown hK hP hD hS 0 rfl rfl 10 (by decide) (htw _ k_V_25) (fun _ h9 => h9) rfl (by decide +kernel) rfl rfl (Nat.le_of_ble_eq_true rfl) d_V_learnResult_60 (fun H locs hP hD hS => ?_)
        have e_n : (mv_L (up_F (up_F (up_F F 16 i a) 14 i b) 11 i (mx_I (F 11 i) (mn_I a (F 4 i)))) i).set 10 (.int 6) = mv_L (up_F (up_F (up_F (up_F F 16 i a) 14 i b) 11 i (mx_I (F 11 i) (mn_I a (F 4 i)))) 10 i 6) i := mv_up _ _ _ 10 (by decide)
        have hP : va_P D cl_L [(h, .inr (1, mv_L (up_F (up_F (up_F (up_F F 16 i a) 14 i b) 11 i (mx_I (F 11 i) (mn_I a (F 4 i)))) 10 i 6) i))] H := by rw [← e_n]; exact hP
        have hD : va_D A [(h, .inr (1, mv_L (up_F (up_F (up_F (up_F F 16 i a) 14 i b) 11 i (mx_I (F 11 i) (mn_I a (F 4 i)))) 10 i 6) i))] := by rw [← e_n]; exact hD
        subst hAe
        have e_F : lr_F F i a b = up_F (up_F (up_F (up_F F 16 i a) 14 i b) 11 i (mx_I (F 11 i) (mn_I a (F 4 i)))) 10 i 6 := by unfold lr_F; rw [if_neg b3, if_pos ⟨c4, c5⟩]
        exact W.vret hx hb hr (fun t ht hW => ⟨⟨(), rfl, trivial, by rw [ht, e_F]; exact hP, by rw [e_F]; exact hD⟩, hS.F ht⟩) hS.2.2 d_V_learnResult_63
/-- recovery -/
def rc_F (F : Nat → Nat → Int32) (i : Nat) : Nat → Nat → Int32 := if is_en (F 10 i) then F else up_F (up_F F 12 i (rv_I F i)) 10 i 5
set_option maxHeartbeats 4000000 in
set_option maxRecDepth 100000 in
theorem t_V_recover (l : Launch) (D : va_G) (cM cG cI cJ : ClassId) (h : Nat) (F : Nat → Nat → Int32) (i : Nat) (sz : Nat) (h4 : ¬ F 4 i < 1) : Met l y_V_recover (Cond.code y_V_recover c_V_recover 1 none :: tw_L) ({ frames := 2, cells := 0, slots := 0, locals := 40 } : Room) (mu_P D [(h, .inr (1, mv_L F i))] sz (fun _ _ => True) (yt_P D cM cG cI cJ) [.ref h]) (va_Qv (fun _ : Unit => True) (mu_B D [(h, .inr (1, mv_L F i))] sz (fun _ => [(h, .inr (1, mv_L (rc_F F i) i))])) (va_A [(h, .inr (1, mv_L F i))] sz)) 0 0 (va_A [(h, .inr (1, mv_L F i))] sz) := by
  refine Met.ofW (cc := c_V_recover) (maxL := 1) (ret := none) (by decide) rfl ?_
  intro p e s m args below meth c s₁ B hml hv
  obtain ⟨rfl, hsz, hP, hD0, hX, hY⟩ := hv
  have hx := B.exec
  have hb := B.bytes
  have hr := B.returns
  have htw : ∀ w ∈ tw_L, w.before _ s = true := fun w hw => atoms_spec (ws := (Cond.code y_V_recover c_V_recover 1 none :: tw_L)) B.pre w (List.mem_cons_of_mem _ hw)
  have hown : s.vm.findClass R_V = some m.cls := findClass_of_methodNamed B.named
  have hlocks := B.notSynchronized
  have hC : CallFix p m c c_V_recover 1 s _ tw_L R_V := ⟨hx, hb, hml, hown, htw⟩
  have hK := hY.1
  have hl := lv_entry ([.ref h]) (n := 1) (Nat.le_of_ble_eq_true rfl)
  rw [lg_entry_eq]
  generalize (lg_sl ([.ref h]) ++ List.replicate (1 - (lg_sl ([.ref h])).length) Slot.unset).toArray = ls at hl ⊢
  have hl : lv_has ls 1 [(0, .ref h)] := hl
  subst hsz
  obtain ⟨A, hAe⟩ : ∃ A : Nat → Prop, A = va_A [(h, .inr (1, mv_L F i))] s.heap.size := ⟨_, rfl⟩
  have hD : va_D A [(h, .inr (1, mv_L F i))] := by rw [hAe]; exact hD0.self
  have hA : ∀ q : Nat, s.heap.size ≤ q → A q := fun q h => by rw [hAe]; exact Or.inr h
  have hS : va_S A s.heap s.heap [] := va_S.rf
  refine lv_aload_n hx hb d_V_recover_0 rfl (lv_at hl 0 rfl) ?_
  refine cp_V (n := 0) [] hC (t_V_hasEnded l D cM cG cI cJ h F i) ⟨kc_V_hasEnded, kn_V, k_V_70, ki_V_hasEnded, kv_V_hasEnded⟩ (by decide +kernel) ⟨rfl, rfl, Nat.le_of_ble_eq_true rfl, Nat.le_of_ble_eq_true rfl⟩ x_0 (yt_Y D cM cG cI cJ) hY hP (va_recv hK hP (ci := 1) (q0 := 0) rfl rfl) rfl hl.1 rfl (Nat.le_of_ble_eq_true rfl) d_V_recover_1 ⟨Nat.le_of_ble_eq_true rfl, Nat.le_of_ble_eq_true rfl⟩ (fun r1 h2 => ?_)
  rcases h2 with ⟨rfl, b3⟩ | ⟨rfl, b3⟩
  · have b3 : is_en (F 10 i) := b3
    refine lv_if_ne (tgt := 20) hx hb d_V_recover_4 (by decide) (fun _ => ?_) (fun q9 => absurd q9 (by decide))
    subst hAe
    have e_F : rc_F F i = F := by unfold rc_F; rw [if_pos b3]
    exact W.vret hx hb hr (fun t ht hW => ⟨⟨(), rfl, trivial, by rw [ht, e_F]; exact hP, by rw [e_F]; exact hD⟩, hS.F ht⟩) hS.2.2 d_V_recover_20
  · have b3 : ¬ is_en (F 10 i) := b3
    refine lv_if_ne (tgt := 20) hx hb d_V_recover_4 (by decide) (fun q9 => absurd rfl q9) (fun _ => ?_)
    refine lv_aload_n hx hb d_V_recover_7 rfl (lv_at hl 0 rfl) ?_
    refine lv_aload_n hx hb d_V_recover_8 rfl (lv_at hl 0 rfl) ?_
    refine cp_V (n := 0) [] hC (t_V_shareOfMissing l D cM cG cI cJ h F i h4) ⟨kc_V_shareOfMissing, kn_V, k_V_98, ki_V_shareOfMissing, kv_V_shareOfMissing⟩ (by decide +kernel) ⟨rfl, rfl, Nat.le_of_ble_eq_true rfl, Nat.le_of_ble_eq_true rfl⟩ x_0 (yt_Y D cM cG cI cJ) hY hP (va_recv hK hP (ci := 1) (q0 := 0) rfl rfl) rfl hl.1 rfl (Nat.le_of_ble_eq_true rfl) d_V_recover_9 ⟨Nat.le_of_ble_eq_true rfl, Nat.le_of_ble_eq_true rfl⟩ (fun r4 h5 => ?_)
    subst h5
    refine va_put (D := D) (ci := 1) (v := .int (rv_I F i)) (ty := .int) (C := R_V) (T := F_V) (N := 19) hx hb htw uw_V ft_V tk_V n_V hown hK hP hD hS 0 rfl rfl 12 (by decide) (htw _ k_V_31) (fun _ h9 => h9) rfl (by decide +kernel) rfl rfl (Nat.le_of_ble_eq_true rfl) d_V_recover_12 (fun H locs hP hD hS => ?_)
    have e_n : (mv_L F i).set 12 (.int (rv_I F i)) = mv_L (up_F F 12 i (rv_I F i)) i := mv_up _ _ _ 12 (by decide)
    have hP : va_P D cl_L [(h, .inr (1, mv_L (up_F F 12 i (rv_I F i)) i))] H := by rw [← e_n]; exact hP
    have hD : va_D A [(h, .inr (1, mv_L (up_F F 12 i (rv_I F i)) i))] := by rw [← e_n]; exact hD
    refine lv_aload_n hx hb d_V_recover_15 rfl (lv_at hl 0 rfl) ?_
    refine lv_iconst (v := 5) hx hb d_V_recover_16 (by decide) ?_
    refine va_put (D := D) (ci := 1) (v := .int 5) (ty := .int) (C := R_V) (T := F_V) (N := 19) hx hb htw uw_V ft_V tk_V n_V hown hK hP hD hS 0 rfl rfl 10 (by decide) (htw _ k_V_25) (fun _ h9 => h9) rfl (by decide +kernel) rfl rfl (Nat.le_of_ble_eq_true rfl) d_V_recover_17 (fun H locs hP hD hS => ?_)
    have e_n : (mv_L (up_F F 12 i (rv_I F i)) i).set 10 (.int 5) = mv_L (up_F (up_F F 12 i (rv_I F i)) 10 i 5) i := mv_up _ _ _ 10 (by decide)
    have hP : va_P D cl_L [(h, .inr (1, mv_L (up_F (up_F F 12 i (rv_I F i)) 10 i 5) i))] H := by rw [← e_n]; exact hP
    have hD : va_D A [(h, .inr (1, mv_L (up_F (up_F F 12 i (rv_I F i)) 10 i 5) i))] := by rw [← e_n]; exact hD
    subst hAe
    have e_F : rc_F F i = up_F (up_F F 12 i (rv_I F i)) 10 i 5 := by unfold rc_F; rw [if_neg b3]
    exact W.vret hx hb hr (fun t ht hW => ⟨⟨(), rfl, trivial, by rw [ht, e_F]; exact hP, by rw [e_F]; exact hD⟩, hS.F ht⟩) hS.2.2 d_V_recover_20
set_option maxHeartbeats 4000000 in
set_option maxRecDepth 100000 in
theorem t_V_init (l : Launch) (D : va_G) (cM cG cI cJ : ClassId) (h : Nat) (sz : Nat) (a : Int32) (b : Int32) (d : Int32) (s9 : Int32) (n : Int32) (v : Int32) : Met l y_V_init (Cond.code y_V_init c_V_init 7 none :: tw_L) ({ frames := 1, cells := 0, slots := 0, locals := 12 } : Room) (mu_P D [(h, .inr (1, [.int 0, .int 0, .int 0, .int 0, .int 0, .int 0, .int 0, .int 0, .int 0, .int 0, .int 0, .int 0, .int 0, .int 0, .int 0, .int 0, .int 0, .int 0, .int 0]))] sz (fun _ _ => True) (yt_P D cM cG cI cJ) [.ref h, .int a, .int b, .int d, .int s9, .int n, .int v]) (va_Qv (fun _ : Unit => True) (mu_B D [(h, .inr (1, [.int 0, .int 0, .int 0, .int 0, .int 0, .int 0, .int 0, .int 0, .int 0, .int 0, .int 0, .int 0, .int 0, .int 0, .int 0, .int 0, .int 0, .int 0, .int 0]))] sz (fun _ => [(h, .inr (1, [.int a, .int b, .int d, .int s9, .int n, .int v, .int (-1), .int (-1), .int 0, .int (-1), .int 1, .int 0, .int 0, .int 0, .int (-1), .int (-1), .int (-1), .int 0, .int 0]))])) (va_A [(h, .inr (1, [.int 0, .int 0, .int 0, .int 0, .int 0, .int 0, .int 0, .int 0, .int 0, .int 0, .int 0, .int 0, .int 0, .int 0, .int 0, .int 0, .int 0, .int 0, .int 0]))] sz)) 0 0 (va_A [(h, .inr (1, [.int 0, .int 0, .int 0, .int 0, .int 0, .int 0, .int 0, .int 0, .int 0, .int 0, .int 0, .int 0, .int 0, .int 0, .int 0, .int 0, .int 0, .int 0, .int 0]))] sz) := by
  refine Met.ofW (cc := c_V_init) (maxL := 7) (ret := none) (by decide) rfl ?_
  intro p e s m args below meth c s₁ B hml hv
  obtain ⟨rfl, hsz, hP, hD0, hX, hY⟩ := hv
  have hx := B.exec
  have hb := B.bytes
  have hr := B.returns
  have htw : ∀ w ∈ tw_L, w.before _ s = true := fun w hw => atoms_spec (ws := (Cond.code y_V_init c_V_init 7 none :: tw_L)) B.pre w (List.mem_cons_of_mem _ hw)
  have hown : s.vm.findClass R_V = some m.cls := findClass_of_methodNamed B.named
  have hlocks := B.notSynchronized
  have hin : meth.name = "<init>" := (name_of_methodNamed B.named B.method).1
  have hC : CallFix p m c c_V_init 7 s _ tw_L R_V := ⟨hx, hb, hml, hown, htw⟩
  have hK := hY.1
  have hl := lv_entry ([.ref h, .int a, .int b, .int d, .int s9, .int n, .int v]) (n := 7) (Nat.le_of_ble_eq_true rfl)
  rw [lg_entry_eq]
  generalize (lg_sl ([.ref h, .int a, .int b, .int d, .int s9, .int n, .int v]) ++ List.replicate (7 - (lg_sl ([.ref h, .int a, .int b, .int d, .int s9, .int n, .int v])).length) Slot.unset).toArray = ls at hl ⊢
  have hl : lv_has ls 7 [(0, .ref h), (1, .int a), (2, .int b), (3, .int d), (4, .int s9), (5, .int n), (6, .int v)] := hl
  subst hsz
  obtain ⟨A, hAe⟩ : ∃ A : Nat → Prop, A = va_A [(h, .inr (1, [.int 0, .int 0, .int 0, .int 0, .int 0, .int 0, .int 0, .int 0, .int 0, .int 0, .int 0, .int 0, .int 0, .int 0, .int 0, .int 0, .int 0, .int 0, .int 0]))] s.heap.size := ⟨_, rfl⟩
  have hD : va_D A [(h, .inr (1, [.int 0, .int 0, .int 0, .int 0, .int 0, .int 0, .int 0, .int 0, .int 0, .int 0, .int 0, .int 0, .int 0, .int 0, .int 0, .int 0, .int 0, .int 0, .int 0]))] := by rw [hAe]; exact hD0.self
  have hA : ∀ q : Nat, s.heap.size ≤ q → A q := fun q h => by rw [hAe]; exact Or.inr h
  have hS : va_S A s.heap s.heap [] := va_S.rf
  refine lv_aload_n hx hb d_V_init_0 rfl (lv_at hl 0 rfl) ?_
  refine W.objInit hx hb hown (htw _ k_V_3) (htw _ ki_obj) (htw _ kc_obj) rfl (by rw [hml]; exact hl.1) rfl d_V_init_1 (Nat.le_of_ble_eq_true rfl) (Nat.le_of_ble_eq_true rfl) ?_
  refine W.eq (g2 := F0 m 4 ls []) rfl ?_
  refine lv_aload_n hx hb d_V_init_4 rfl (lv_at hl 0 rfl) ?_
  refine lv_iconst (v := (-1)) hx hb d_V_init_5 (by decide) ?_
  refine va_put (D := D) (ci := 1) (v := .int (-1)) (ty := .int) (C := R_V) (T := F_V) (N := 19) hx hb htw uw_V ft_V tk_V n_V hown hK hP hD hS 0 rfl rfl 6 (by decide) (htw _ k_V_9) (fun _ h9 => h9) rfl (by decide +kernel) rfl rfl (Nat.le_of_ble_eq_true rfl) d_V_init_6 (fun H locs hP hD hS => ?_)
  have hP : va_P D cl_L [(h, .inr (1, [.int 0, .int 0, .int 0, .int 0, .int 0, .int 0, .int (-1), .int 0, .int 0, .int 0, .int 0, .int 0, .int 0, .int 0, .int 0, .int 0, .int 0, .int 0, .int 0]))] H := hP
  have hD : va_D A [(h, .inr (1, [.int 0, .int 0, .int 0, .int 0, .int 0, .int 0, .int (-1), .int 0, .int 0, .int 0, .int 0, .int 0, .int 0, .int 0, .int 0, .int 0, .int 0, .int 0, .int 0]))] := hD
  refine lv_aload_n hx hb d_V_init_9 rfl (lv_at hl 0 rfl) ?_
  refine lv_iconst (v := (-1)) hx hb d_V_init_10 (by decide) ?_
  refine va_put (D := D) (ci := 1) (v := .int (-1)) (ty := .int) (C := R_V) (T := F_V) (N := 19) hx hb htw uw_V ft_V tk_V n_V hown hK hP hD hS 0 rfl rfl 7 (by decide) (htw _ k_V_15) (fun _ h9 => h9) rfl (by decide +kernel) rfl rfl (Nat.le_of_ble_eq_true rfl) d_V_init_11 (fun H locs hP hD hS => ?_)
  have hP : va_P D cl_L [(h, .inr (1, [.int 0, .int 0, .int 0, .int 0, .int 0, .int 0, .int (-1), .int (-1), .int 0, .int 0, .int 0, .int 0, .int 0, .int 0, .int 0, .int 0, .int 0, .int 0, .int 0]))] H := hP
  have hD : va_D A [(h, .inr (1, [.int 0, .int 0, .int 0, .int 0, .int 0, .int 0, .int (-1), .int (-1), .int 0, .int 0, .int 0, .int 0, .int 0, .int 0, .int 0, .int 0, .int 0, .int 0, .int 0]))] := hD
  refine lv_aload_n hx hb d_V_init_14 rfl (lv_at hl 0 rfl) ?_
  refine lv_iconst (v := 0) hx hb d_V_init_15 (by decide) ?_
  refine va_put (D := D) (ci := 1) (v := .int 0) (ty := .boolean) (C := R_V) (T := F_V) (N := 19) hx hb htw uw_V ft_V tk_V n_V hown hK hP hD hS 0 rfl rfl 8 (by decide) (htw _ k_V_18) (fun _ h9 => h9) rfl (by decide +kernel) rfl rfl (Nat.le_of_ble_eq_true rfl) d_V_init_16 (fun H locs hP hD hS => ?_)
  have hP : va_P D cl_L [(h, .inr (1, [.int 0, .int 0, .int 0, .int 0, .int 0, .int 0, .int (-1), .int (-1), .int 0, .int 0, .int 0, .int 0, .int 0, .int 0, .int 0, .int 0, .int 0, .int 0, .int 0]))] H := hP
  have hD : va_D A [(h, .inr (1, [.int 0, .int 0, .int 0, .int 0, .int 0, .int 0, .int (-1), .int (-1), .int 0, .int 0, .int 0, .int 0, .int 0, .int 0, .int 0, .int 0, .int 0, .int 0, .int 0]))] := hD
  refine lv_aload_n hx hb d_V_init_19 rfl (lv_at hl 0 rfl) ?_
  refine lv_iconst (v := (-1)) hx hb d_V_init_20 (by decide) ?_
  refine va_put (D := D) (ci := 1) (v := .int (-1)) (ty := .int) (C := R_V) (T := F_V) (N := 19) hx hb htw uw_V ft_V tk_V n_V hown hK hP hD hS 0 rfl rfl 9 (by decide) (htw _ k_V_22) (fun _ h9 => h9) rfl (by decide +kernel) rfl rfl (Nat.le_of_ble_eq_true rfl) d_V_init_21 (fun H locs hP hD hS => ?_)
  have hP : va_P D cl_L [(h, .inr (1, [.int 0, .int 0, .int 0, .int 0, .int 0, .int 0, .int (-1), .int (-1), .int 0, .int (-1), .int 0, .int 0, .int 0, .int 0, .int 0, .int 0, .int 0, .int 0, .int 0]))] H := hP
  have hD : va_D A [(h, .inr (1, [.int 0, .int 0, .int 0, .int 0, .int 0, .int 0, .int (-1), .int (-1), .int 0, .int (-1), .int 0, .int 0, .int 0, .int 0, .int 0, .int 0, .int 0, .int 0, .int 0]))] := hD
  refine lv_aload_n hx hb d_V_init_24 rfl (lv_at hl 0 rfl) ?_
  refine lv_iconst (v := 1) hx hb d_V_init_25 (by decide) ?_
  refine va_put (D := D) (ci := 1) (v := .int 1) (ty := .int) (C := R_V) (T := F_V) (N := 19) hx hb htw uw_V ft_V tk_V n_V hown hK hP hD hS 0 rfl rfl 10 (by decide) (htw _ k_V_25) (fun _ h9 => h9) rfl (by decide +kernel) rfl rfl (Nat.le_of_ble_eq_true rfl) d_V_init_26 (fun H locs hP hD hS => ?_)
  have hP : va_P D cl_L [(h, .inr (1, [.int 0, .int 0, .int 0, .int 0, .int 0, .int 0, .int (-1), .int (-1), .int 0, .int (-1), .int 1, .int 0, .int 0, .int 0, .int 0, .int 0, .int 0, .int 0, .int 0]))] H := hP
  have hD : va_D A [(h, .inr (1, [.int 0, .int 0, .int 0, .int 0, .int 0, .int 0, .int (-1), .int (-1), .int 0, .int (-1), .int 1, .int 0, .int 0, .int 0, .int 0, .int 0, .int 0, .int 0, .int 0]))] := hD
  refine lv_aload_n hx hb d_V_init_29 rfl (lv_at hl 0 rfl) ?_
  refine lv_iconst (v := 0) hx hb d_V_init_30 (by decide) ?_
  refine va_put (D := D) (ci := 1) (v := .int 0) (ty := .int) (C := R_V) (T := F_V) (N := 19) hx hb htw uw_V ft_V tk_V n_V hown hK hP hD hS 0 rfl rfl 11 (by decide) (htw _ k_V_28) (fun _ h9 => h9) rfl (by decide +kernel) rfl rfl (Nat.le_of_ble_eq_true rfl) d_V_init_31 (fun H locs hP hD hS => ?_)
  have hP : va_P D cl_L [(h, .inr (1, [.int 0, .int 0, .int 0, .int 0, .int 0, .int 0, .int (-1), .int (-1), .int 0, .int (-1), .int 1, .int 0, .int 0, .int 0, .int 0, .int 0, .int 0, .int 0, .int 0]))] H := hP
  have hD : va_D A [(h, .inr (1, [.int 0, .int 0, .int 0, .int 0, .int 0, .int 0, .int (-1), .int (-1), .int 0, .int (-1), .int 1, .int 0, .int 0, .int 0, .int 0, .int 0, .int 0, .int 0, .int 0]))] := hD
  refine lv_aload_n hx hb d_V_init_34 rfl (lv_at hl 0 rfl) ?_
  refine lv_iconst (v := 0) hx hb d_V_init_35 (by decide) ?_
  refine va_put (D := D) (ci := 1) (v := .int 0) (ty := .int) (C := R_V) (T := F_V) (N := 19) hx hb htw uw_V ft_V tk_V n_V hown hK hP hD hS 0 rfl rfl 12 (by decide) (htw _ k_V_31) (fun _ h9 => h9) rfl (by decide +kernel) rfl rfl (Nat.le_of_ble_eq_true rfl) d_V_init_36 (fun H locs hP hD hS => ?_)
  have hP : va_P D cl_L [(h, .inr (1, [.int 0, .int 0, .int 0, .int 0, .int 0, .int 0, .int (-1), .int (-1), .int 0, .int (-1), .int 1, .int 0, .int 0, .int 0, .int 0, .int 0, .int 0, .int 0, .int 0]))] H := hP
  have hD : va_D A [(h, .inr (1, [.int 0, .int 0, .int 0, .int 0, .int 0, .int 0, .int (-1), .int (-1), .int 0, .int (-1), .int 1, .int 0, .int 0, .int 0, .int 0, .int 0, .int 0, .int 0, .int 0]))] := hD
  refine lv_aload_n hx hb d_V_init_39 rfl (lv_at hl 0 rfl) ?_
  refine lv_iconst (v := 0) hx hb d_V_init_40 (by decide) ?_
  refine va_put (D := D) (ci := 1) (v := .int 0) (ty := .int) (C := R_V) (T := F_V) (N := 19) hx hb htw uw_V ft_V tk_V n_V hown hK hP hD hS 0 rfl rfl 13 (by decide) (htw _ k_V_34) (fun _ h9 => h9) rfl (by decide +kernel) rfl rfl (Nat.le_of_ble_eq_true rfl) d_V_init_41 (fun H locs hP hD hS => ?_)
  have hP : va_P D cl_L [(h, .inr (1, [.int 0, .int 0, .int 0, .int 0, .int 0, .int 0, .int (-1), .int (-1), .int 0, .int (-1), .int 1, .int 0, .int 0, .int 0, .int 0, .int 0, .int 0, .int 0, .int 0]))] H := hP
  have hD : va_D A [(h, .inr (1, [.int 0, .int 0, .int 0, .int 0, .int 0, .int 0, .int (-1), .int (-1), .int 0, .int (-1), .int 1, .int 0, .int 0, .int 0, .int 0, .int 0, .int 0, .int 0, .int 0]))] := hD
  refine lv_aload_n hx hb d_V_init_44 rfl (lv_at hl 0 rfl) ?_
  refine lv_iconst (v := (-1)) hx hb d_V_init_45 (by decide) ?_
  refine va_put (D := D) (ci := 1) (v := .int (-1)) (ty := .int) (C := R_V) (T := F_V) (N := 19) hx hb htw uw_V ft_V tk_V n_V hown hK hP hD hS 0 rfl rfl 14 (by decide) (htw _ k_V_37) (fun _ h9 => h9) rfl (by decide +kernel) rfl rfl (Nat.le_of_ble_eq_true rfl) d_V_init_46 (fun H locs hP hD hS => ?_)
  have hP : va_P D cl_L [(h, .inr (1, [.int 0, .int 0, .int 0, .int 0, .int 0, .int 0, .int (-1), .int (-1), .int 0, .int (-1), .int 1, .int 0, .int 0, .int 0, .int (-1), .int 0, .int 0, .int 0, .int 0]))] H := hP
  have hD : va_D A [(h, .inr (1, [.int 0, .int 0, .int 0, .int 0, .int 0, .int 0, .int (-1), .int (-1), .int 0, .int (-1), .int 1, .int 0, .int 0, .int 0, .int (-1), .int 0, .int 0, .int 0, .int 0]))] := hD
  refine lv_aload_n hx hb d_V_init_49 rfl (lv_at hl 0 rfl) ?_
  refine lv_iconst (v := (-1)) hx hb d_V_init_50 (by decide) ?_
  refine va_put (D := D) (ci := 1) (v := .int (-1)) (ty := .int) (C := R_V) (T := F_V) (N := 19) hx hb htw uw_V ft_V tk_V n_V hown hK hP hD hS 0 rfl rfl 15 (by decide) (htw _ k_V_40) (fun _ h9 => h9) rfl (by decide +kernel) rfl rfl (Nat.le_of_ble_eq_true rfl) d_V_init_51 (fun H locs hP hD hS => ?_)
  have hP : va_P D cl_L [(h, .inr (1, [.int 0, .int 0, .int 0, .int 0, .int 0, .int 0, .int (-1), .int (-1), .int 0, .int (-1), .int 1, .int 0, .int 0, .int 0, .int (-1), .int (-1), .int 0, .int 0, .int 0]))] H := hP
  have hD : va_D A [(h, .inr (1, [.int 0, .int 0, .int 0, .int 0, .int 0, .int 0, .int (-1), .int (-1), .int 0, .int (-1), .int 1, .int 0, .int 0, .int 0, .int (-1), .int (-1), .int 0, .int 0, .int 0]))] := hD
  refine lv_aload_n hx hb d_V_init_54 rfl (lv_at hl 0 rfl) ?_
  refine lv_iconst (v := (-1)) hx hb d_V_init_55 (by decide) ?_
  refine va_put (D := D) (ci := 1) (v := .int (-1)) (ty := .int) (C := R_V) (T := F_V) (N := 19) hx hb htw uw_V ft_V tk_V n_V hown hK hP hD hS 0 rfl rfl 16 (by decide) (htw _ k_V_43) (fun _ h9 => h9) rfl (by decide +kernel) rfl rfl (Nat.le_of_ble_eq_true rfl) d_V_init_56 (fun H locs hP hD hS => ?_)
  have hP : va_P D cl_L [(h, .inr (1, [.int 0, .int 0, .int 0, .int 0, .int 0, .int 0, .int (-1), .int (-1), .int 0, .int (-1), .int 1, .int 0, .int 0, .int 0, .int (-1), .int (-1), .int (-1), .int 0, .int 0]))] H := hP
  have hD : va_D A [(h, .inr (1, [.int 0, .int 0, .int 0, .int 0, .int 0, .int 0, .int (-1), .int (-1), .int 0, .int (-1), .int 1, .int 0, .int 0, .int 0, .int (-1), .int (-1), .int (-1), .int 0, .int 0]))] := hD
  refine lv_aload_n hx hb d_V_init_59 rfl (lv_at hl 0 rfl) ?_
  refine lv_iconst (v := 0) hx hb d_V_init_60 (by decide) ?_
  refine va_put (D := D) (ci := 1) (v := .int 0) (ty := .boolean) (C := R_V) (T := F_V) (N := 19) hx hb htw uw_V ft_V tk_V n_V hown hK hP hD hS 0 rfl rfl 17 (by decide) (htw _ k_V_46) (fun _ h9 => h9) rfl (by decide +kernel) rfl rfl (Nat.le_of_ble_eq_true rfl) d_V_init_61 (fun H locs hP hD hS => ?_)
  have hP : va_P D cl_L [(h, .inr (1, [.int 0, .int 0, .int 0, .int 0, .int 0, .int 0, .int (-1), .int (-1), .int 0, .int (-1), .int 1, .int 0, .int 0, .int 0, .int (-1), .int (-1), .int (-1), .int 0, .int 0]))] H := hP
  have hD : va_D A [(h, .inr (1, [.int 0, .int 0, .int 0, .int 0, .int 0, .int 0, .int (-1), .int (-1), .int 0, .int (-1), .int 1, .int 0, .int 0, .int 0, .int (-1), .int (-1), .int (-1), .int 0, .int 0]))] := hD
  refine lv_aload_n hx hb d_V_init_64 rfl (lv_at hl 0 rfl) ?_
  refine lv_iconst (v := 0) hx hb d_V_init_65 (by decide) ?_
  refine va_put (D := D) (ci := 1) (v := .int 0) (ty := .boolean) (C := R_V) (T := F_V) (N := 19) hx hb htw uw_V ft_V tk_V n_V hown hK hP hD hS 0 rfl rfl 18 (by decide) (htw _ k_V_49) (fun _ h9 => h9) rfl (by decide +kernel) rfl rfl (Nat.le_of_ble_eq_true rfl) d_V_init_66 (fun H locs hP hD hS => ?_)
  have hP : va_P D cl_L [(h, .inr (1, [.int 0, .int 0, .int 0, .int 0, .int 0, .int 0, .int (-1), .int (-1), .int 0, .int (-1), .int 1, .int 0, .int 0, .int 0, .int (-1), .int (-1), .int (-1), .int 0, .int 0]))] H := hP
  have hD : va_D A [(h, .inr (1, [.int 0, .int 0, .int 0, .int 0, .int 0, .int 0, .int (-1), .int (-1), .int 0, .int (-1), .int 1, .int 0, .int 0, .int 0, .int (-1), .int (-1), .int (-1), .int 0, .int 0]))] := hD
  refine lv_aload_n hx hb d_V_init_69 rfl (lv_at hl 0 rfl) ?_
  refine lv_iload_n hx hb d_V_init_70 rfl (lv_at hl 1 rfl) ?_
  refine va_putF (D := D) (ci := 1) (v := .int a) (ty := .int) (C := R_V) (T := F_V) (N := 19) hx hb htw uw_V ft_V tk_V n_V hown hK hP hD hS 0 rfl rfl 0 (by decide) (htw _ k_V_52) (fun _ h9 => h9) rfl hin rfl (by decide +kernel) rfl rfl (Nat.le_of_ble_eq_true rfl) d_V_init_71 (fun H locs hP hD hS => ?_)
  have hP : va_P D cl_L [(h, .inr (1, [.int a, .int 0, .int 0, .int 0, .int 0, .int 0, .int (-1), .int (-1), .int 0, .int (-1), .int 1, .int 0, .int 0, .int 0, .int (-1), .int (-1), .int (-1), .int 0, .int 0]))] H := hP
  have hD : va_D A [(h, .inr (1, [.int a, .int 0, .int 0, .int 0, .int 0, .int 0, .int (-1), .int (-1), .int 0, .int (-1), .int 1, .int 0, .int 0, .int 0, .int (-1), .int (-1), .int (-1), .int 0, .int 0]))] := hD
  refine lv_aload_n hx hb d_V_init_74 rfl (lv_at hl 0 rfl) ?_
  refine lv_iload_n hx hb d_V_init_75 rfl (lv_at hl 2 rfl) ?_
  refine va_putF (D := D) (ci := 1) (v := .int b) (ty := .int) (C := R_V) (T := F_V) (N := 19) hx hb htw uw_V ft_V tk_V n_V hown hK hP hD hS 0 rfl rfl 1 (by decide) (htw _ k_V_55) (fun _ h9 => h9) rfl hin rfl (by decide +kernel) rfl rfl (Nat.le_of_ble_eq_true rfl) d_V_init_76 (fun H locs hP hD hS => ?_)
  have hP : va_P D cl_L [(h, .inr (1, [.int a, .int b, .int 0, .int 0, .int 0, .int 0, .int (-1), .int (-1), .int 0, .int (-1), .int 1, .int 0, .int 0, .int 0, .int (-1), .int (-1), .int (-1), .int 0, .int 0]))] H := hP
  have hD : va_D A [(h, .inr (1, [.int a, .int b, .int 0, .int 0, .int 0, .int 0, .int (-1), .int (-1), .int 0, .int (-1), .int 1, .int 0, .int 0, .int 0, .int (-1), .int (-1), .int (-1), .int 0, .int 0]))] := hD
  refine lv_aload_n hx hb d_V_init_79 rfl (lv_at hl 0 rfl) ?_
  refine lv_iload_n hx hb d_V_init_80 rfl (lv_at hl 3 rfl) ?_
  refine va_putF (D := D) (ci := 1) (v := .int d) (ty := .int) (C := R_V) (T := F_V) (N := 19) hx hb htw uw_V ft_V tk_V n_V hown hK hP hD hS 0 rfl rfl 2 (by decide) (htw _ k_V_58) (fun _ h9 => h9) rfl hin rfl (by decide +kernel) rfl rfl (Nat.le_of_ble_eq_true rfl) d_V_init_81 (fun H locs hP hD hS => ?_)
  have hP : va_P D cl_L [(h, .inr (1, [.int a, .int b, .int d, .int 0, .int 0, .int 0, .int (-1), .int (-1), .int 0, .int (-1), .int 1, .int 0, .int 0, .int 0, .int (-1), .int (-1), .int (-1), .int 0, .int 0]))] H := hP
  have hD : va_D A [(h, .inr (1, [.int a, .int b, .int d, .int 0, .int 0, .int 0, .int (-1), .int (-1), .int 0, .int (-1), .int 1, .int 0, .int 0, .int 0, .int (-1), .int (-1), .int (-1), .int 0, .int 0]))] := hD
  refine lv_aload_n hx hb d_V_init_84 rfl (lv_at hl 0 rfl) ?_
  refine lv_iload hx hb d_V_init_85 (lv_at hl 4 rfl) ?_
  refine va_putF (D := D) (ci := 1) (v := .int s9) (ty := .int) (C := R_V) (T := F_V) (N := 19) hx hb htw uw_V ft_V tk_V n_V hown hK hP hD hS 0 rfl rfl 3 (by decide) (htw _ k_V_61) (fun _ h9 => h9) rfl hin rfl (by decide +kernel) rfl rfl (Nat.le_of_ble_eq_true rfl) d_V_init_87 (fun H locs hP hD hS => ?_)
  have hP : va_P D cl_L [(h, .inr (1, [.int a, .int b, .int d, .int s9, .int 0, .int 0, .int (-1), .int (-1), .int 0, .int (-1), .int 1, .int 0, .int 0, .int 0, .int (-1), .int (-1), .int (-1), .int 0, .int 0]))] H := hP
  have hD : va_D A [(h, .inr (1, [.int a, .int b, .int d, .int s9, .int 0, .int 0, .int (-1), .int (-1), .int 0, .int (-1), .int 1, .int 0, .int 0, .int 0, .int (-1), .int (-1), .int (-1), .int 0, .int 0]))] := hD
  refine lv_aload_n hx hb d_V_init_90 rfl (lv_at hl 0 rfl) ?_
  refine lv_iload hx hb d_V_init_91 (lv_at hl 5 rfl) ?_
  refine va_putF (D := D) (ci := 1) (v := .int n) (ty := .int) (C := R_V) (T := F_V) (N := 19) hx hb htw uw_V ft_V tk_V n_V hown hK hP hD hS 0 rfl rfl 4 (by decide) (htw _ k_V_64) (fun _ h9 => h9) rfl hin rfl (by decide +kernel) rfl rfl (Nat.le_of_ble_eq_true rfl) d_V_init_93 (fun H locs hP hD hS => ?_)
  have hP : va_P D cl_L [(h, .inr (1, [.int a, .int b, .int d, .int s9, .int n, .int 0, .int (-1), .int (-1), .int 0, .int (-1), .int 1, .int 0, .int 0, .int 0, .int (-1), .int (-1), .int (-1), .int 0, .int 0]))] H := hP
  have hD : va_D A [(h, .inr (1, [.int a, .int b, .int d, .int s9, .int n, .int 0, .int (-1), .int (-1), .int 0, .int (-1), .int 1, .int 0, .int 0, .int 0, .int (-1), .int (-1), .int (-1), .int 0, .int 0]))] := hD
  refine lv_aload_n hx hb d_V_init_96 rfl (lv_at hl 0 rfl) ?_
  refine lv_iload hx hb d_V_init_97 (lv_at hl 6 rfl) ?_
  refine va_putF (D := D) (ci := 1) (v := .int v) (ty := .int) (C := R_V) (T := F_V) (N := 19) hx hb htw uw_V ft_V tk_V n_V hown hK hP hD hS 0 rfl rfl 5 (by decide) (htw _ k_V_67) (fun _ h9 => h9) rfl hin rfl (by decide +kernel) rfl rfl (Nat.le_of_ble_eq_true rfl) d_V_init_99 (fun H locs hP hD hS => ?_)
  have hP : va_P D cl_L [(h, .inr (1, [.int a, .int b, .int d, .int s9, .int n, .int v, .int (-1), .int (-1), .int 0, .int (-1), .int 1, .int 0, .int 0, .int 0, .int (-1), .int (-1), .int (-1), .int 0, .int 0]))] H := hP
  have hD : va_D A [(h, .inr (1, [.int a, .int b, .int d, .int s9, .int n, .int v, .int (-1), .int (-1), .int 0, .int (-1), .int 1, .int 0, .int 0, .int 0, .int (-1), .int (-1), .int (-1), .int 0, .int 0]))] := hD
  subst hAe
  exact W.vret hx hb hr (fun t ht hW => ⟨⟨(), rfl, trivial, by rw [ht]; exact hP, hD⟩, hS.F ht⟩) hS.2.2 d_V_init_102
set_option maxHeartbeats 4000000 in
set_option maxRecDepth 100000 in
theorem t_G_init (l : Launch) (D : va_G) (cM cG cI cJ : ClassId) (h : Nat) (sz : Nat) (k9 : Int32) (m9 : Int32) (f9 : Int32) (t9 : Int32) (v9 : Int32) (w9 : Int32) : Met l y_G_init (Cond.code y_G_init c_G_init 7 none :: tw_L) ({ frames := 1, cells := 0, slots := 0, locals := 12 } : Room) (mu_P D [(h, .inr (2, [.int 0, .int 0, .int 0, .int 0, .int 0, .int 0, .int 0]))] sz (fun _ _ => True) (yt_P D cM cG cI cJ) [.ref h, .int k9, .int m9, .int f9, .int t9, .int v9, .int w9]) (va_Qv (fun _ : Unit => True) (mu_B D [(h, .inr (2, [.int 0, .int 0, .int 0, .int 0, .int 0, .int 0, .int 0]))] sz (fun _ => [(h, .inr (2, [.int k9, .int m9, .int f9, .int t9, .int v9, .int w9, .int 0]))])) (va_A [(h, .inr (2, [.int 0, .int 0, .int 0, .int 0, .int 0, .int 0, .int 0]))] sz)) 0 0 (va_A [(h, .inr (2, [.int 0, .int 0, .int 0, .int 0, .int 0, .int 0, .int 0]))] sz) := by
  refine Met.ofW (cc := c_G_init) (maxL := 7) (ret := none) (by decide) rfl ?_
  intro p e s m args below meth c s₁ B hml hv
  obtain ⟨rfl, hsz, hP, hD0, hX, hY⟩ := hv
  have hx := B.exec
  have hb := B.bytes
  have hr := B.returns
  have htw : ∀ w ∈ tw_L, w.before _ s = true := fun w hw => atoms_spec (ws := (Cond.code y_G_init c_G_init 7 none :: tw_L)) B.pre w (List.mem_cons_of_mem _ hw)
  have hown : s.vm.findClass R_G = some m.cls := findClass_of_methodNamed B.named
  have hlocks := B.notSynchronized
  have hin : meth.name = "<init>" := (name_of_methodNamed B.named B.method).1
  have hC : CallFix p m c c_G_init 7 s _ tw_L R_G := ⟨hx, hb, hml, hown, htw⟩
  have hK := hY.1
  have hl := lv_entry ([.ref h, .int k9, .int m9, .int f9, .int t9, .int v9, .int w9]) (n := 7) (Nat.le_of_ble_eq_true rfl)
  rw [lg_entry_eq]
  generalize (lg_sl ([.ref h, .int k9, .int m9, .int f9, .int t9, .int v9, .int w9]) ++ List.replicate (7 - (lg_sl ([.ref h, .int k9, .int m9, .int f9, .int t9, .int v9, .int w9])).length) Slot.unset).toArray = ls at hl ⊢
  have hl : lv_has ls 7 [(0, .ref h), (1, .int k9), (2, .int m9), (3, .int f9), (4, .int t9), (5, .int v9), (6, .int w9)] := hl
  subst hsz
  obtain ⟨A, hAe⟩ : ∃ A : Nat → Prop, A = va_A [(h, .inr (2, [.int 0, .int 0, .int 0, .int 0, .int 0, .int 0, .int 0]))] s.heap.size := ⟨_, rfl⟩
  have hD : va_D A [(h, .inr (2, [.int 0, .int 0, .int 0, .int 0, .int 0, .int 0, .int 0]))] := by rw [hAe]; exact hD0.self
  have hA : ∀ q : Nat, s.heap.size ≤ q → A q := fun q h => by rw [hAe]; exact Or.inr h
  have hS : va_S A s.heap s.heap [] := va_S.rf
  refine lv_aload_n hx hb d_G_init_0 rfl (lv_at hl 0 rfl) ?_
  refine W.objInit hx hb hown (htw _ k_G_3) (htw _ ki_obj) (htw _ kc_obj) rfl (by rw [hml]; exact hl.1) rfl d_G_init_1 (Nat.le_of_ble_eq_true rfl) (Nat.le_of_ble_eq_true rfl) ?_
  refine W.eq (g2 := F0 m 4 ls []) rfl ?_
  refine lv_aload_n hx hb d_G_init_4 rfl (lv_at hl 0 rfl) ?_
  refine lv_iconst (v := 0) hx hb d_G_init_5 (by decide) ?_
  refine va_put (D := D) (ci := 2) (v := .int 0) (ty := .int) (C := R_G) (T := F_G) (N := 7) hx hb htw uw_G ft_G tk_G n_G hown hK hP hD hS 0 rfl rfl 6 (by decide) (htw _ k_G_9) (fun _ h9 => h9) rfl (by decide +kernel) rfl rfl (Nat.le_of_ble_eq_true rfl) d_G_init_6 (fun H locs hP hD hS => ?_)
  have hP : va_P D cl_L [(h, .inr (2, [.int 0, .int 0, .int 0, .int 0, .int 0, .int 0, .int 0]))] H := hP
  have hD : va_D A [(h, .inr (2, [.int 0, .int 0, .int 0, .int 0, .int 0, .int 0, .int 0]))] := hD
  refine lv_aload_n hx hb d_G_init_9 rfl (lv_at hl 0 rfl) ?_
  refine lv_iload_n hx hb d_G_init_10 rfl (lv_at hl 1 rfl) ?_
  refine va_putF (D := D) (ci := 2) (v := .int k9) (ty := .int) (C := R_G) (T := F_G) (N := 7) hx hb htw uw_G ft_G tk_G n_G hown hK hP hD hS 0 rfl rfl 0 (by decide) (htw _ k_G_15) (fun _ h9 => h9) rfl hin rfl (by decide +kernel) rfl rfl (Nat.le_of_ble_eq_true rfl) d_G_init_11 (fun H locs hP hD hS => ?_)
  have hP : va_P D cl_L [(h, .inr (2, [.int k9, .int 0, .int 0, .int 0, .int 0, .int 0, .int 0]))] H := hP
  have hD : va_D A [(h, .inr (2, [.int k9, .int 0, .int 0, .int 0, .int 0, .int 0, .int 0]))] := hD
  refine lv_aload_n hx hb d_G_init_14 rfl (lv_at hl 0 rfl) ?_
  refine lv_iload_n hx hb d_G_init_15 rfl (lv_at hl 2 rfl) ?_
  refine va_putF (D := D) (ci := 2) (v := .int m9) (ty := .int) (C := R_G) (T := F_G) (N := 7) hx hb htw uw_G ft_G tk_G n_G hown hK hP hD hS 0 rfl rfl 1 (by decide) (htw _ k_G_18) (fun _ h9 => h9) rfl hin rfl (by decide +kernel) rfl rfl (Nat.le_of_ble_eq_true rfl) d_G_init_16 (fun H locs hP hD hS => ?_)
  have hP : va_P D cl_L [(h, .inr (2, [.int k9, .int m9, .int 0, .int 0, .int 0, .int 0, .int 0]))] H := hP
  have hD : va_D A [(h, .inr (2, [.int k9, .int m9, .int 0, .int 0, .int 0, .int 0, .int 0]))] := hD
  refine lv_aload_n hx hb d_G_init_19 rfl (lv_at hl 0 rfl) ?_
  refine lv_iload_n hx hb d_G_init_20 rfl (lv_at hl 3 rfl) ?_
  refine va_putF (D := D) (ci := 2) (v := .int f9) (ty := .int) (C := R_G) (T := F_G) (N := 7) hx hb htw uw_G ft_G tk_G n_G hown hK hP hD hS 0 rfl rfl 2 (by decide) (htw _ k_G_21) (fun _ h9 => h9) rfl hin rfl (by decide +kernel) rfl rfl (Nat.le_of_ble_eq_true rfl) d_G_init_21 (fun H locs hP hD hS => ?_)
  have hP : va_P D cl_L [(h, .inr (2, [.int k9, .int m9, .int f9, .int 0, .int 0, .int 0, .int 0]))] H := hP
  have hD : va_D A [(h, .inr (2, [.int k9, .int m9, .int f9, .int 0, .int 0, .int 0, .int 0]))] := hD
  refine lv_aload_n hx hb d_G_init_24 rfl (lv_at hl 0 rfl) ?_
  refine lv_iload hx hb d_G_init_25 (lv_at hl 4 rfl) ?_
  refine va_putF (D := D) (ci := 2) (v := .int t9) (ty := .int) (C := R_G) (T := F_G) (N := 7) hx hb htw uw_G ft_G tk_G n_G hown hK hP hD hS 0 rfl rfl 3 (by decide) (htw _ k_G_24) (fun _ h9 => h9) rfl hin rfl (by decide +kernel) rfl rfl (Nat.le_of_ble_eq_true rfl) d_G_init_27 (fun H locs hP hD hS => ?_)
  have hP : va_P D cl_L [(h, .inr (2, [.int k9, .int m9, .int f9, .int t9, .int 0, .int 0, .int 0]))] H := hP
  have hD : va_D A [(h, .inr (2, [.int k9, .int m9, .int f9, .int t9, .int 0, .int 0, .int 0]))] := hD
  refine lv_aload_n hx hb d_G_init_30 rfl (lv_at hl 0 rfl) ?_
  refine lv_iload hx hb d_G_init_31 (lv_at hl 5 rfl) ?_
  refine va_putF (D := D) (ci := 2) (v := .int v9) (ty := .int) (C := R_G) (T := F_G) (N := 7) hx hb htw uw_G ft_G tk_G n_G hown hK hP hD hS 0 rfl rfl 4 (by decide) (htw _ k_G_27) (fun _ h9 => h9) rfl hin rfl (by decide +kernel) rfl rfl (Nat.le_of_ble_eq_true rfl) d_G_init_33 (fun H locs hP hD hS => ?_)
  have hP : va_P D cl_L [(h, .inr (2, [.int k9, .int m9, .int f9, .int t9, .int v9, .int 0, .int 0]))] H := hP
  have hD : va_D A [(h, .inr (2, [.int k9, .int m9, .int f9, .int t9, .int v9, .int 0, .int 0]))] := hD
  refine lv_aload_n hx hb d_G_init_36 rfl (lv_at hl 0 rfl) ?_
  refine lv_iload hx hb d_G_init_37 (lv_at hl 6 rfl) ?_
  refine va_putF (D := D) (ci := 2) (v := .int w9) (ty := .int) (C := R_G) (T := F_G) (N := 7) hx hb htw uw_G ft_G tk_G n_G hown hK hP hD hS 0 rfl rfl 5 (by decide) (htw _ k_G_30) (fun _ h9 => h9) rfl hin rfl (by decide +kernel) rfl rfl (Nat.le_of_ble_eq_true rfl) d_G_init_39 (fun H locs hP hD hS => ?_)
  have hP : va_P D cl_L [(h, .inr (2, [.int k9, .int m9, .int f9, .int t9, .int v9, .int w9, .int 0]))] H := hP
  have hD : va_D A [(h, .inr (2, [.int k9, .int m9, .int f9, .int t9, .int v9, .int w9, .int 0]))] := hD
  subst hAe
  exact W.vret hx hb hr (fun t ht hW => ⟨⟨(), rfl, trivial, by rw [ht]; exact hP, hD⟩, hS.F ht⟩) hS.2.2 d_G_init_42
