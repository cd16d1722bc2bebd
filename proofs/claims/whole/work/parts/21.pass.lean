theorem ra_eq {U : State} {c1 c2 : ClassId} {C : String} (h1 : va_RA U c1 (.object C)) (h2 : va_RA U c2 (.object C)) : c1 = c2 := by
  obtain ⟨k1, p1, a1, a2, a3, a4⟩ := h1
  obtain ⟨k2, p2, b1, b2, b3, b4⟩ := h2
  exact Option.some.inj (a4.symm.trans b4)
theorem rf_0 (p : Nat → Nat) : (fun _ => none : Nat → Option Nat) = rf_s p 0 := by
  funext i
  simp [rf_s]
def of_I (x : Int32) : Int32 := if is_wi x 2 8 then x else 4
-- DAYS
theorem dy_mono1 (d : Int32) (i : Nat) (x : dy_T) : x.1 ≤ (dy_m d i x).1 := by
  obtain ⟨g, c, F, R⟩ := x
  simp only [dy_m]
  split
  · split <;> simp
  · split <;> simp
theorem dy_mono (d : Int32) (x : dy_T) : ∀ (n m : Nat), n ≤ m → (dy_d d n x).1 ≤ (dy_d d m x).1 := by
  intro n m h
  induction m with
  | zero => have : n = 0 := by omega
            subst this; exact Nat.le_refl _
  | succ m ih =>
    by_cases hn : n = m + 1
    · subst hn; exact Nat.le_refl _
    · exact Nat.le_trans (ih (by omega)) (dy_mono1 d m _)
theorem du_iff {l x : Int32} (hl : 0 ≤ l.toInt ∧ l.toInt ≤ 10000) (hx : 0 ≤ x.toInt ∧ x.toInt ≤ 10000) : fd_I l (x - 1) = x ↔ (x = l + 40 ∨ is_eq x l) := by
  have e1 : (1 : Int32).toInt = 1 := rfl
  have e10 : (10 : Int32).toInt = 10 := rfl
  have e15 : (15 : Int32).toInt = 15 := rfl
  have e20 : (20 : Int32).toInt = 20 := rfl
  have e40 : (40 : Int32).toInt = 40 := rfl
  have eb : (10001 : Int32).toInt = 10001 := rfl
  have h1 : (x - 1).toInt = x.toInt - 1 := by rw [i_sub] <;> omega
  have a10 : (l + 10).toInt = l.toInt + 10 := by rw [i_add] <;> omega
  have a15 : (l + 15).toInt = l.toInt + 15 := by rw [i_add] <;> omega
  have a20 : (l + 20).toInt = l.toInt + 20 := by rw [i_add] <;> omega
  have a40 : (l + 40).toInt = l.toInt + 40 := by rw [i_add] <;> omega
  simp only [fd_I, is_eq, i_le, i_eq, h1, a10, a15, a20, a40]
  split
  · split
    · split
      · split
        · rw [eb]; omega
        · rw [a40]; omega
      · rw [a20]; omega
    · rw [a15]; omega
  · rw [a10]; omega
abbrev dk_ok (d : Int32) (i : Nat) (x : dy_T) : Prop := ¬ x.2.2.1 4 i < 1 ∧ (0 ≤ (x.2.2.1 2 i).toInt ∧ (x.2.2.1 2 i).toInt ≤ 10000) ∧ (is_eq d (x.2.2.1 2 i) → is_aw (x.2.2.1 10 i) → x.1 < 200)
section DY
variable {d : Int32} {i g : Nat} {c : Int32} {F : Nat → Nat → Int32} {R : Nat → Int32}
theorem dm_rc (h : d = F 2 i + 40) : dy_m d i (g, c, F, R) = (g, c, rc_F F i, R) := by
  simp only [dy_m, rc_F]
  rw [if_pos h]
  split <;> rfl
theorem dm_eq (h1 : ¬ d = F 2 i + 40) (h2 : is_eq d (F 2 i)) (h3 : is_aw (F 10 i)) : dy_m d i (g, c, F, R) = (g + 1, c + 1, up_F (up_F F 13 i (F 13 i + 1)) 10 i 4, sn_R R g 4 (nI i) (F 0 i) (F 1 i) (F 13 i + 1) 0) := by
  simp only [dy_m]
  rw [if_neg h1, if_pos ⟨h2, h3⟩]
theorem dm_no (h1 : ¬ d = F 2 i + 40) (h2 : ¬ (is_eq d (F 2 i) ∧ is_aw (F 10 i))) : dy_m d i (g, c, F, R) = (g, c, F, R) := by
  simp only [dy_m]
  rw [if_neg h1, if_neg h2]
end DY
set_option maxHeartbeats 4000000 in
set_option maxRecDepth 100000 in
theorem t_T_init (l : Launch) (D : va_G) (cM cG cI cJ : ClassId) (o : Nat) (pm pg : Nat → Nat) (F : Nat → Nat → Int32) (R : Nat → Int32) (sz : Nat) (x : Int32) : Met l y_T_init (Cond.code y_T_init c_T_init 3 none :: tw_L) ({ frames := 1, cells := 2, slots := 220, locals := 12 } : Room) (mu_P D [(o, .inr (0, [.int 0, .null, .null, .int 0, .int 0, .int 0]))] sz (fun _ _ => True) (yt_P D cM cG cI cJ) [.ref o, .int x]) (va_Qv (fun _ : Nat × Nat => True) (mu_B D [(o, .inr (0, [.int 0, .null, .null, .int 0, .int 0, .int 0]))] sz (fun u => ws_C cM cG o u.1 u.2 pm pg (of_I x, 0, 0, 0, F, R))) (va_A [(o, .inr (0, [.int 0, .null, .null, .int 0, .int 0, .int 0]))] sz)) 2 220 (va_A [(o, .inr (0, [.int 0, .null, .null, .int 0, .int 0, .int 0]))] sz) := by
  refine Met.ofW (cc := c_T_init) (maxL := 3) (ret := none) (by decide) rfl ?_
  intro p e s m args below meth c s₁ B hml hv
  obtain ⟨rfl, hsz, hP, hD0, hX, hY⟩ := hv
  have hx := B.exec
  have hb := B.bytes
  have hr := B.returns
  have htw : ∀ w ∈ tw_L, w.before _ s = true := fun w hw => atoms_spec (ws := (Cond.code y_T_init c_T_init 3 none :: tw_L)) B.pre w (List.mem_cons_of_mem _ hw)
  have hown : s.vm.findClass R_T = some m.cls := findClass_of_methodNamed B.named
  have hlocks := B.notSynchronized
  have hin : meth.name = "<init>" := (name_of_methodNamed B.named B.method).1
  have hC : CallFix p m c c_T_init 3 s _ tw_L R_T := ⟨hx, hb, hml, hown, htw⟩
  have hK := hY.1
  have hl := lv_entry ([.ref o, .int x]) (n := 3) (Nat.le_of_ble_eq_true rfl)
  rw [lg_entry_eq]
  generalize (lg_sl ([.ref o, .int x]) ++ List.replicate (3 - (lg_sl ([.ref o, .int x])).length) Slot.unset).toArray = ls at hl ⊢
  have hl : lv_has ls 3 [(0, .ref o), (1, .int x)] := hl
  subst hsz
  obtain ⟨A, hAe⟩ : ∃ A : Nat → Prop, A = va_A [(o, .inr (0, [.int 0, .null, .null, .int 0, .int 0, .int 0]))] s.heap.size := ⟨_, rfl⟩
  have hD : va_D A [(o, .inr (0, [.int 0, .null, .null, .int 0, .int 0, .int 0]))] := by rw [hAe]; exact hD0.self
  have hA : ∀ q : Nat, s.heap.size ≤ q → A q := fun q h => by rw [hAe]; exact Or.inr h
  have hS : va_S A s.heap s.heap [] := va_S.rf
  refine lv_aload_n hx hb d_T_init_0 rfl (lv_at hl 0 rfl) ?_
  refine W.objInit hx hb hown (htw _ k_T_3) (htw _ ki_obj) (htw _ kc_obj) rfl (by rw [hml]; exact hl.1) rfl d_T_init_1 (Nat.le_of_ble_eq_true rfl) (Nat.le_of_ble_eq_true rfl) ?_
  refine W.eq (g2 := F0 m 4 ls []) rfl ?_
  refine lv_aload_n hx hb d_T_init_4 rfl (lv_at hl 0 rfl) ?_
  refine lv_bipush (v := 20) hx hb d_T_init_5 (by decide) ?_
  refine va_newq (N' := 20) hx hb hown (htw _ k_T_9) hY.2.2.2.2.1 hK hP hD hS hA (by decide) rfl (by decide) (Nat.le_of_ble_eq_true rfl) (Nat.le_of_ble_eq_true rfl) d_T_init_7 (fun q1 cA H hK9 hP hD hS => ?_)
  have hcA : cA = cM := ra_eq (hK9.2 4 _ rfl).2 (hK.2 0 _ rfl).2
  rw [hcA] at hP hD
  have hP : va_P D cl_L [(o, .inr (0, [.int 0, .null, .null, .int 0, .int 0, .int 0])), (q1, .inl (cM, 20, .inr (.inr (.inr (.inr (fun _ => none))))))] H := hP
  have hD : va_D A [(o, .inr (0, [.int 0, .null, .null, .int 0, .int 0, .int 0])), (q1, .inl (cM, 20, .inr (.inr (.inr (.inr (fun _ => none))))))] := hD
  refine va_putF (D := D) (ci := 0) (v := .ref q1) (ty := .array (.object "TransitSteps$Movement")) (C := R_T) (T := F_T) (N := 6) hx hb htw uw_T ft_T tk_T n_T hown hK hP hD hS 0 rfl rfl 1 (by decide) (htw _ k_T_11) (fun _ h9 => h9) rfl hin rfl (by decide +kernel) rfl rfl (Nat.le_of_ble_eq_true rfl) d_T_init_10 (fun H locs hP hD hS => ?_)
  have hP : va_P D cl_L [(o, .inr (0, [.int 0, .ref q1, .null, .int 0, .int 0, .int 0])), (q1, .inl (cM, 20, .inr (.inr (.inr (.inr (fun _ => none))))))] H := hP
  have hD : va_D A [(o, .inr (0, [.int 0, .ref q1, .null, .int 0, .int 0, .int 0])), (q1, .inl (cM, 20, .inr (.inr (.inr (.inr (fun _ => none))))))] := hD
  refine lv_aload_n hx hb d_T_init_13 rfl (lv_at hl 0 rfl) ?_
  refine lv_sipush (v := 200) hx hb d_T_init_14 (by decide) ?_
  refine va_newq (N' := 200) hx hb hown (htw _ k_T_15) hY.2.2.2.2.2.1 hK hP hD hS hA (by decide) rfl (by decide) (Nat.le_of_ble_eq_true rfl) (Nat.le_of_ble_eq_true rfl) d_T_init_17 (fun q2 cA H hK9 hP hD hS => ?_)
  have hcA : cA = cG := ra_eq (hK9.2 4 _ rfl).2 (hK.2 1 _ rfl).2
  rw [hcA] at hP hD
  have hP : va_P D cl_L [(o, .inr (0, [.int 0, .ref q1, .null, .int 0, .int 0, .int 0])), (q1, .inl (cM, 20, .inr (.inr (.inr (.inr (fun _ => none)))))), (q2, .inl (cG, 200, .inr (.inr (.inr (.inr (fun _ => none))))))] H := hP
  have hD : va_D A [(o, .inr (0, [.int 0, .ref q1, .null, .int 0, .int 0, .int 0])), (q1, .inl (cM, 20, .inr (.inr (.inr (.inr (fun _ => none)))))), (q2, .inl (cG, 200, .inr (.inr (.inr (.inr (fun _ => none))))))] := hD
  refine va_putF (D := D) (ci := 0) (v := .ref q2) (ty := .array (.object "TransitSteps$Message")) (C := R_T) (T := F_T) (N := 6) hx hb htw uw_T ft_T tk_T n_T hown hK hP hD hS 0 rfl rfl 2 (by decide) (htw _ k_T_17) (fun _ h9 => h9) rfl hin rfl (by decide +kernel) rfl rfl (Nat.le_of_ble_eq_true rfl) d_T_init_20 (fun H locs hP hD hS => ?_)
  have hP : va_P D cl_L [(o, .inr (0, [.int 0, .ref q1, .ref q2, .int 0, .int 0, .int 0])), (q1, .inl (cM, 20, .inr (.inr (.inr (.inr (fun _ => none)))))), (q2, .inl (cG, 200, .inr (.inr (.inr (.inr (fun _ => none))))))] H := hP
  have hD : va_D A [(o, .inr (0, [.int 0, .ref q1, .ref q2, .int 0, .int 0, .int 0])), (q1, .inl (cM, 20, .inr (.inr (.inr (.inr (fun _ => none)))))), (q2, .inl (cG, 200, .inr (.inr (.inr (.inr (fun _ => none))))))] := hD
  refine lv_aload_n hx hb d_T_init_23 rfl (lv_at hl 0 rfl) ?_
  refine lv_iconst (v := 0) hx hb d_T_init_24 (by decide) ?_
  refine va_put (D := D) (ci := 0) (v := .int 0) (ty := .int) (C := R_T) (T := F_T) (N := 6) hx hb htw uw_T ft_T tk_T n_T hown hK hP hD hS 0 rfl rfl 3 (by decide) (htw _ k_T_21) (fun _ h9 => h9) rfl (by decide +kernel) rfl rfl (Nat.le_of_ble_eq_true rfl) d_T_init_25 (fun H locs hP hD hS => ?_)
  have hP : va_P D cl_L [(o, .inr (0, [.int 0, .ref q1, .ref q2, .int 0, .int 0, .int 0])), (q1, .inl (cM, 20, .inr (.inr (.inr (.inr (fun _ => none)))))), (q2, .inl (cG, 200, .inr (.inr (.inr (.inr (fun _ => none))))))] H := hP
  have hD : va_D A [(o, .inr (0, [.int 0, .ref q1, .ref q2, .int 0, .int 0, .int 0])), (q1, .inl (cM, 20, .inr (.inr (.inr (.inr (fun _ => none)))))), (q2, .inl (cG, 200, .inr (.inr (.inr (.inr (fun _ => none))))))] := hD
  refine lv_aload_n hx hb d_T_init_28 rfl (lv_at hl 0 rfl) ?_
  refine lv_iconst (v := 0) hx hb d_T_init_29 (by decide) ?_
  refine va_put (D := D) (ci := 0) (v := .int 0) (ty := .int) (C := R_T) (T := F_T) (N := 6) hx hb htw uw_T ft_T tk_T n_T hown hK hP hD hS 0 rfl rfl 4 (by decide) (htw _ k_T_25) (fun _ h9 => h9) rfl (by decide +kernel) rfl rfl (Nat.le_of_ble_eq_true rfl) d_T_init_30 (fun H locs hP hD hS => ?_)
  have hP : va_P D cl_L [(o, .inr (0, [.int 0, .ref q1, .ref q2, .int 0, .int 0, .int 0])), (q1, .inl (cM, 20, .inr (.inr (.inr (.inr (fun _ => none)))))), (q2, .inl (cG, 200, .inr (.inr (.inr (.inr (fun _ => none))))))] H := hP
  have hD : va_D A [(o, .inr (0, [.int 0, .ref q1, .ref q2, .int 0, .int 0, .int 0])), (q1, .inl (cM, 20, .inr (.inr (.inr (.inr (fun _ => none)))))), (q2, .inl (cG, 200, .inr (.inr (.inr (.inr (fun _ => none))))))] := hD
  refine lv_aload_n hx hb d_T_init_33 rfl (lv_at hl 0 rfl) ?_
  refine lv_iconst (v := 0) hx hb d_T_init_34 (by decide) ?_
  refine va_put (D := D) (ci := 0) (v := .int 0) (ty := .int) (C := R_T) (T := F_T) (N := 6) hx hb htw uw_T ft_T tk_T n_T hown hK hP hD hS 0 rfl rfl 5 (by decide) (htw _ k_T_28) (fun _ h9 => h9) rfl (by decide +kernel) rfl rfl (Nat.le_of_ble_eq_true rfl) d_T_init_35 (fun H locs hP hD hS => ?_)
  have hP : va_P D cl_L [(o, .inr (0, [.int 0, .ref q1, .ref q2, .int 0, .int 0, .int 0])), (q1, .inl (cM, 20, .inr (.inr (.inr (.inr (fun _ => none)))))), (q2, .inl (cG, 200, .inr (.inr (.inr (.inr (fun _ => none))))))] H := hP
  have hD : va_D A [(o, .inr (0, [.int 0, .ref q1, .ref q2, .int 0, .int 0, .int 0])), (q1, .inl (cM, 20, .inr (.inr (.inr (.inr (fun _ => none)))))), (q2, .inl (cG, 200, .inr (.inr (.inr (.inr (fun _ => none))))))] := hD
  refine lv_iload_n hx hb d_T_init_38 rfl (lv_at hl 1 rfl) ?_
  refine lv_iconst (v := 2) hx hb d_T_init_39 (by decide) ?_
  refine lv_icmp_lt (tgt := 53) hx hb d_T_init_40 (by decide) (fun c1 => ?_) (fun c1 => ?_)
  · refine lv_iconst (v := 0) hx hb d_T_init_53 (by decide) ?_
    refine lv_istore_n (lv' := [(2, .int 0), (0, .ref o), (1, .int x)]) hx hb d_T_init_54 rfl hl (by decide) rfl (fun ls hl => ?_)
    refine lv_aload_n hx hb d_T_init_55 rfl (lv_at hl 1 rfl) ?_
    refine lv_iload_n hx hb d_T_init_56 rfl (lv_at hl 0 rfl) ?_
    refine lv_if_eq (tgt := 64) hx hb d_T_init_57 (by decide) (fun _ => ?_) (fun q9 => absurd rfl q9)
    refine lv_iconst (v := 4) hx hb d_T_init_64 (by decide) ?_
    refine va_putF (D := D) (ci := 0) (v := .int 4) (ty := .int) (C := R_T) (T := F_T) (N := 6) hx hb htw uw_T ft_T tk_T n_T hown hK hP hD hS 0 rfl rfl 0 (by decide) (htw _ k_T_31) (fun _ h9 => h9) rfl hin rfl (by decide +kernel) rfl rfl (Nat.le_of_ble_eq_true rfl) d_T_init_65 (fun H locs hP hD hS => ?_)
    have hP : va_P D cl_L [(o, .inr (0, [.int 4, .ref q1, .ref q2, .int 0, .int 0, .int 0])), (q1, .inl (cM, 20, .inr (.inr (.inr (.inr (fun _ => none)))))), (q2, .inl (cG, 200, .inr (.inr (.inr (.inr (fun _ => none))))))] H := hP
    have hD : va_D A [(o, .inr (0, [.int 4, .ref q1, .ref q2, .int 0, .int 0, .int 0])), (q1, .inl (cM, 20, .inr (.inr (.inr (.inr (fun _ => none)))))), (q2, .inl (cG, 200, .inr (.inr (.inr (.inr (fun _ => none))))))] := hD
    subst hAe
    have e_O : of_I x = 4 := by unfold of_I; rw [if_neg (fun q => q.1 c1)]
    have e_p := rf_0 pm
    have e_g := rf_0 pg
    have hP : va_P D cl_L (ws_C cM cG o q1 q2 pm pg (of_I x, 0, 0, 0, F, R)) H := by rw [e_O]; show va_P D cl_L [_, (q1, .inl (cM, 20, .inr (.inr (.inr (.inr (rf_s pm 0)))))), (q2, .inl (cG, 200, .inr (.inr (.inr (.inr (rf_s pg 0))))))] H; rw [← e_p, ← e_g]; exact hP
    have hD : va_D (va_A [(o, .inr (0, [.int 0, .null, .null, .int 0, .int 0, .int 0]))] s.heap.size) (ws_C cM cG o q1 q2 pm pg (of_I x, 0, 0, 0, F, R)) := by rw [e_O]; show va_D _ [_, (q1, .inl (cM, 20, .inr (.inr (.inr (.inr (rf_s pm 0)))))), (q2, .inl (cG, 200, .inr (.inr (.inr (.inr (rf_s pg 0))))))]; rw [← e_p, ← e_g]; exact hD
    refine W.widen (k := 2) (n := 220) (by decide) (by decide) ?_
    exact W.vret hx hb hr (fun t ht hW => ⟨⟨(q1, q2), rfl, trivial, by rw [ht]; exact hP, hD⟩, hS.F ht⟩) hS.2.2 d_T_init_68
  · refine lv_iload_n hx hb d_T_init_43 rfl (lv_at hl 1 rfl) ?_
    refine lv_bipush (v := 8) hx hb d_T_init_44 (by decide) ?_
    refine lv_icmp_gt (tgt := 53) hx hb d_T_init_46 (by decide) (fun c2 => ?_) (fun c2 => ?_)
    · refine lv_iconst (v := 0) hx hb d_T_init_53 (by decide) ?_
      refine lv_istore_n (lv' := [(2, .int 0), (0, .ref o), (1, .int x)]) hx hb d_T_init_54 rfl hl (by decide) rfl (fun ls hl => ?_)
      refine lv_aload_n hx hb d_T_init_55 rfl (lv_at hl 1 rfl) ?_
      refine lv_iload_n hx hb d_T_init_56 rfl (lv_at hl 0 rfl) ?_
      refine lv_if_eq (tgt := 64) hx hb d_T_init_57 (by decide) (fun _ => ?_) (fun q9 => absurd rfl q9)
      refine lv_iconst (v := 4) hx hb d_T_init_64 (by decide) ?_
      refine va_putF (D := D) (ci := 0) (v := .int 4) (ty := .int) (C := R_T) (T := F_T) (N := 6) hx hb htw uw_T ft_T tk_T n_T hown hK hP hD hS 0 rfl rfl 0 (by decide) (htw _ k_T_31) (fun _ h9 => h9) rfl hin rfl (by decide +kernel) rfl rfl (Nat.le_of_ble_eq_true rfl) d_T_init_65 (fun H locs hP hD hS => ?_)
      have hP : va_P D cl_L [(o, .inr (0, [.int 4, .ref q1, .ref q2, .int 0, .int 0, .int 0])), (q1, .inl (cM, 20, .inr (.inr (.inr (.inr (fun _ => none)))))), (q2, .inl (cG, 200, .inr (.inr (.inr (.inr (fun _ => none))))))] H := hP
      have hD : va_D A [(o, .inr (0, [.int 4, .ref q1, .ref q2, .int 0, .int 0, .int 0])), (q1, .inl (cM, 20, .inr (.inr (.inr (.inr (fun _ => none)))))), (q2, .inl (cG, 200, .inr (.inr (.inr (.inr (fun _ => none))))))] := hD
      subst hAe
      have e_O : of_I x = 4 := by unfold of_I; rw [if_neg (fun q => q.2 c2)]
      have e_p := rf_0 pm
      have e_g := rf_0 pg
      have hP : va_P D cl_L (ws_C cM cG o q1 q2 pm pg (of_I x, 0, 0, 0, F, R)) H := by rw [e_O]; show va_P D cl_L [_, (q1, .inl (cM, 20, .inr (.inr (.inr (.inr (rf_s pm 0)))))), (q2, .inl (cG, 200, .inr (.inr (.inr (.inr (rf_s pg 0))))))] H; rw [← e_p, ← e_g]; exact hP
      have hD : va_D (va_A [(o, .inr (0, [.int 0, .null, .null, .int 0, .int 0, .int 0]))] s.heap.size) (ws_C cM cG o q1 q2 pm pg (of_I x, 0, 0, 0, F, R)) := by rw [e_O]; show va_D _ [_, (q1, .inl (cM, 20, .inr (.inr (.inr (.inr (rf_s pm 0)))))), (q2, .inl (cG, 200, .inr (.inr (.inr (.inr (rf_s pg 0))))))]; rw [← e_p, ← e_g]; exact hD
      refine W.widen (k := 2) (n := 220) (by decide) (by decide) ?_
      exact W.vret hx hb hr (fun t ht hW => ⟨⟨(q1, q2), rfl, trivial, by rw [ht]; exact hP, hD⟩, hS.F ht⟩) hS.2.2 d_T_init_68
    · refine lv_iconst (v := 1) hx hb d_T_init_49 (by decide) ?_
      refine lv_goto (tgt := 54) hx hb d_T_init_50 (by decide) ?_
      refine lv_istore_n (lv' := [(2, .int 1), (0, .ref o), (1, .int x)]) hx hb d_T_init_54 rfl hl (by decide) rfl (fun ls hl => ?_)
      refine lv_aload_n hx hb d_T_init_55 rfl (lv_at hl 1 rfl) ?_
      refine lv_iload_n hx hb d_T_init_56 rfl (lv_at hl 0 rfl) ?_
      refine lv_if_eq (tgt := 64) hx hb d_T_init_57 (by decide) (fun q9 => absurd q9 (by decide)) (fun _ => ?_)
      refine lv_iload_n hx hb d_T_init_60 rfl (lv_at hl 2 rfl) ?_
      refine lv_goto (tgt := 65) hx hb d_T_init_61 (by decide) ?_
      refine va_putF (D := D) (ci := 0) (v := .int x) (ty := .int) (C := R_T) (T := F_T) (N := 6) hx hb htw uw_T ft_T tk_T n_T hown hK hP hD hS 0 rfl rfl 0 (by decide) (htw _ k_T_31) (fun _ h9 => h9) rfl hin rfl (by decide +kernel) rfl rfl (Nat.le_of_ble_eq_true rfl) d_T_init_65 (fun H locs hP hD hS => ?_)
      have hP : va_P D cl_L [(o, .inr (0, [.int x, .ref q1, .ref q2, .int 0, .int 0, .int 0])), (q1, .inl (cM, 20, .inr (.inr (.inr (.inr (fun _ => none)))))), (q2, .inl (cG, 200, .inr (.inr (.inr (.inr (fun _ => none))))))] H := hP
      have hD : va_D A [(o, .inr (0, [.int x, .ref q1, .ref q2, .int 0, .int 0, .int 0])), (q1, .inl (cM, 20, .inr (.inr (.inr (.inr (fun _ => none)))))), (q2, .inl (cG, 200, .inr (.inr (.inr (.inr (fun _ => none))))))] := hD
      subst hAe
      have e_O : of_I x = x := by unfold of_I; rw [if_pos ⟨c1, c2⟩]
      have e_p := rf_0 pm
      have e_g := rf_0 pg
      have hP : va_P D cl_L (ws_C cM cG o q1 q2 pm pg (of_I x, 0, 0, 0, F, R)) H := by rw [e_O]; show va_P D cl_L [_, (q1, .inl (cM, 20, .inr (.inr (.inr (.inr (rf_s pm 0)))))), (q2, .inl (cG, 200, .inr (.inr (.inr (.inr (rf_s pg 0))))))] H; rw [← e_p, ← e_g]; exact hP
      have hD : va_D (va_A [(o, .inr (0, [.int 0, .null, .null, .int 0, .int 0, .int 0]))] s.heap.size) (ws_C cM cG o q1 q2 pm pg (of_I x, 0, 0, 0, F, R)) := by rw [e_O]; show va_D _ [_, (q1, .inl (cM, 20, .inr (.inr (.inr (.inr (rf_s pm 0)))))), (q2, .inl (cG, 200, .inr (.inr (.inr (.inr (rf_s pg 0))))))]; rw [← e_p, ← e_g]; exact hD
      refine W.widen (k := 2) (n := 220) (by decide) (by decide) ?_
      exact W.vret hx hb hr (fun t ht hW => ⟨⟨(q1, q2), rfl, trivial, by rw [ht]; exact hP, hD⟩, hS.F ht⟩) hS.2.2 d_T_init_68
set_option maxHeartbeats 4000000 in
set_option maxRecDepth 100000 in
theorem t_T_passDueDay (l : Launch) (D : va_G) (cM cG cI cJ : ClassId) (o am ag : Nat) (pm pg : Nat → Nat) (off : Int32) (nm ng : Nat) (now : Int32) (F : Nat → Nat → Int32) (R : Nat → Int32) (sz : Nat) (x : Int32) (hn20 : nm ≤ 20) (hx1 : 0 ≤ x.toInt ∧ x.toInt ≤ 10000) (hdk : ∀ k, k < nm → dk_ok x k (dy_d x k (ng, 0, F, R))) : Met l y_T_passDueDay (Cond.code y_T_passDueDay c_T_passDueDay 5 (some .int) :: tw_L) ({ frames := 3, cells := (dy_d x nm (ng, 0, F, R)).1 - ng, slots := 7 * ((dy_d x nm (ng, 0, F, R)).1 - ng), locals := 64 } : Room) (mu_P D (ws_C cM cG o am ag pm pg (off, nm, ng, now, F, R)) sz (sa_P (va_A (ws_C cM cG o am ag pm pg (off, nm, ng, now, F, R)) sz)) (yt_P D cM cG cI cJ) [.ref o, .int x]) (va_Qi (fun (r : Int32) (_ : Nat → Nat) => r = (dy_d x nm (ng, 0, F, R)).2.1) (mu_B D (ws_C cM cG o am ag pm pg (off, nm, ng, now, F, R)) sz (fun pg1 => ws_C cM cG o am ag pm pg1 (off, nm, (dy_d x nm (ng, 0, F, R)).1, now, (dy_d x nm (ng, 0, F, R)).2.2.1, (dy_d x nm (ng, 0, F, R)).2.2.2))) (va_A (ws_C cM cG o am ag pm pg (off, nm, ng, now, F, R)) sz)) ((dy_d x nm (ng, 0, F, R)).1 - ng) (7 * ((dy_d x nm (ng, 0, F, R)).1 - ng)) (va_A (ws_C cM cG o am ag pm pg (off, nm, ng, now, F, R)) sz) := by
  refine Met.ofW (cc := c_T_passDueDay) (maxL := 5) (ret := (some .int)) (by decide) rfl ?_
  intro p e s m args below meth c s₁ B hml hv
  obtain ⟨rfl, hsz, hP, hD0, hX, hY⟩ := hv
  have hx := B.exec
  have hb := B.bytes
  have hr := B.returns
  have htw : ∀ w ∈ tw_L, w.before _ s = true := fun w hw => atoms_spec (ws := (Cond.code y_T_passDueDay c_T_passDueDay 5 (some .int) :: tw_L)) B.pre w (List.mem_cons_of_mem _ hw)
  have hown : s.vm.findClass R_T = some m.cls := findClass_of_methodNamed B.named
  have hlocks := B.notSynchronized
  have hC : CallFix p m c c_T_passDueDay 5 s _ tw_L R_T := ⟨hx, hb, hml, hown, htw⟩
  have hK := hY.1
  have hl := lv_entry ([.ref o, .int x]) (n := 5) (Nat.le_of_ble_eq_true rfl)
  rw [lg_entry_eq]
  generalize (lg_sl ([.ref o, .int x]) ++ List.replicate (5 - (lg_sl ([.ref o, .int x])).length) Slot.unset).toArray = ls at hl ⊢
  have hl : lv_has ls 5 [(0, .ref o), (1, .int x)] := hl
  subst hsz
  obtain ⟨A, hAe⟩ : ∃ A : Nat → Prop, A = va_A (ws_C cM cG o am ag pm pg (off, nm, ng, now, F, R)) s.heap.size := ⟨_, rfl⟩
  have hD : va_D A (ws_C cM cG o am ag pm pg (off, nm, ng, now, F, R)) := by rw [hAe]; exact hD0.self
  have hA : ∀ q : Nat, s.heap.size ≤ q → A q := fun q h => by rw [hAe]; exact Or.inr h
  have hS : va_S A s.heap s.heap [] := va_S.rf
  have hXa : sa_P A s s.heap := by rw [hAe]; exact hX
  refine lv_iconst (v := 0) hx hb d_T_passDueDay_0 (by decide) ?_
  refine lv_istore_n (lv' := [(2, .int 0), (0, .ref o), (1, .int x)]) hx hb d_T_passDueDay_1 rfl hl (by decide) rfl (fun ls hl => ?_)
  refine lv_iconst (v := 0) hx hb d_T_passDueDay_2 (by decide) ?_
  refine lv_istore_n (lv' := [(3, .int 0), (2, .int 0), (0, .ref o), (1, .int x)]) hx hb d_T_passDueDay_3 rfl hl (by decide) rfl (fun ls hl => ?_)
  have hl8 : lv_has ls 5 [(0, .ref o), (1, .int x), (2, .int 0), (3, .int (nI 0))] := lv_sub hl [2, 3, 1, 0] rfl
  clear hl
  refine W.widen (k := ng - ng) (n := 7 * (ng - ng)) (by omega) (by omega) ?_
  obtain ⟨k, q, g, c9, F1, R1, pg1, H, locs, hk, hq, hdy, hP9, hD9, hS9, hHH, hgg, hl9⟩ : ∃ (k q g : Nat) (c9 : Int32) (F1 : Nat → Nat → Int32) (R1 : Nat → Int32) (pg1 : Nat → Nat) (H : Heap) (locs : List Loc), k ≤ 20 ∧ ((k ≤ nm ∧ q = k) ∨ (nm ≤ k ∧ q = nm)) ∧ dy_d x q (ng, 0, F, R) = (g, c9, F1, R1) ∧ va_P D cl_L (ws_C cM cG o am ag pm pg1 (off, nm, g, now, F1, R1)) H ∧ va_D A (ws_C cM cG o am ag pm pg1 (off, nm, g, now, F1, R1)) ∧ va_S A s.heap H locs ∧ (H = s.heap ∧ locs = []) ∧ g = ng ∧ lv_has ls 5 [(0, .ref o), (1, .int x), (2, .int c9), (3, .int (nI k))] := ⟨0, 0, ng, 0, F, R, pg, s.heap, [], Nat.zero_le _, Or.inl ⟨Nat.zero_le _, rfl⟩, rfl, hP, hD, hS, ⟨rfl, rfl⟩, rfl, hl8⟩
  clear hl8
  obtain ⟨hH1, hH2⟩ := hHH
  have hgo : W p l e (headSpec (Cond.code y_T_passDueDay c_T_passDueDay 5 (some .int) :: tw_L) ({ frames := 3, cells := (dy_d x nm (ng, 0, F, R)).1 - ng, slots := 7 * ((dy_d x nm (ng, 0, F, R)).1 - ng), locals := 64 } : Room)).room s m ([Value.ref o, Value.int x] : List Value).toArray below meth c H locs (g - ng) (7 * (g - ng)) (MQ below (va_Qi (fun (r : Int32) (_ : Nat → Nat) => r = (dy_d x nm (ng, 0, F, R)).2.1) (mu_B D (ws_C cM cG o am ag pm pg (off, nm, ng, now, F, R)) s.heap.size (fun pg1 => ws_C cM cG o am ag pm pg1 (off, nm, (dy_d x nm (ng, 0, F, R)).1, now, (dy_d x nm (ng, 0, F, R)).2.2.1, (dy_d x nm (ng, 0, F, R)).2.2.2))) (va_A (ws_C cM cG o am ag pm pg (off, nm, ng, now, F, R)) s.heap.size)) ([Value.ref o, Value.int x] : List Value).toArray s ((dy_d x nm (ng, 0, F, R)).1 - ng) (7 * ((dy_d x nm (ng, 0, F, R)).1 - ng)) (va_A (ws_C cM cG o am ag pm pg (off, nm, ng, now, F, R)) s.heap.size)) (F0 m 4 ls []) := by
    clear hgg hH1 hH2 hP hD hS
    have hP := hP9
    have hD := hD9
    have hS := hS9
    have hl := hl9
    clear hP9 hD9 hS9 hl9
    obtain ⟨n9, hn9⟩ : ∃ n9 : Nat, 20 + 1 ≤ k + n9 := ⟨20 + 1, by omega⟩
    induction n9 generalizing k q g c9 F1 R1 pg1 H locs ls with
    | zero => exfalso; omega
    | succ n9 ih =>
      have hq2 : q ≤ nm := by omega
      have hgN : g ≤ (dy_d x nm (ng, 0, F, R)).1 := by have := dy_mono x (ng, 0, F, R) q nm hq2; rw [hdy] at this; exact this
      have hg0 : ng ≤ g := by have := dy_mono x (ng, 0, F, R) 0 q (Nat.zero_le _); rw [hdy] at this; exact this
      have hr1 : g - ng + 0 ≤ (dy_d x nm (ng, 0, F, R)).1 - ng := by omega
      have hr2 : 7 * (g - ng) + 0 ≤ 7 * ((dy_d x nm (ng, 0, F, R)).1 - ng) := by omega
      refine lv_iload_n hx hb d_T_passDueDay_4 rfl (lv_at hl 3 rfl) ?_
      refine lv_aload_n hx hb d_T_passDueDay_5 rfl (lv_at hl 0 rfl) ?_
      refine va_get (D := D) (C := R_T) (T := F_T) (N := 6) hx hb htw uw_T hown hK hP 0 rfl rfl 1 (by decide) (htw _ k_T_11) (fun _ h9 => h9) rfl d_T_passDueDay_6 ?_
      refine va_alen (v := 20) hx hb hK hP 1 0 rfl rfl rfl d_T_passDueDay_9 ?_
      refine lv_icmp_ge (tgt := 114) hx hb d_T_passDueDay_10 (by decide) (fun c1 => ?_) (fun c1 => ?_)
      · have hqn : q = nm := by have := lp_ge (n := 20) c1 (by omega); omega
        rw [hqn] at hdy
        refine lv_iload_n hx hb d_T_passDueDay_114 rfl (lv_at hl 2 rfl) ?_
        subst hAe
        refine W.widen (k := (dy_d x nm (ng, 0, F, R)).1 - ng) (n := 7 * ((dy_d x nm (ng, 0, F, R)).1 - ng)) (by omega) (by omega) ?_
        exact W.iret (v := c9) hx hb hr (fun t ht hW => ⟨⟨_, pg1, rfl, by rw [hdy], by rw [ht, hdy]; exact hP, by rw [hdy]; exact hD⟩, hS.F ht⟩) hS.2.2 d_T_passDueDay_115
      · have hk9 : k < 20 := lp_lt (n := 20) c1 (by omega)
        refine lv_aload_n hx hb d_T_passDueDay_13 rfl (lv_at hl 0 rfl) ?_
        refine va_get (D := D) (C := R_T) (T := F_T) (N := 6) hx hb htw uw_T hown hK hP 0 rfl rfl 1 (by decide) (htw _ k_T_11) (fun _ h9 => h9) rfl d_T_passDueDay_14 ?_
        refine lv_iload_n hx hb d_T_passDueDay_17 rfl (lv_at hl 3 rfl) ?_
        refine va_aldq hx hb hK hP 1 0 rfl rfl (vp_in_nI hk9 (by decide)) d_T_passDueDay_18 ?_
        rw [nI_clamp (Nat.lt_trans hk9 (by decide))]
        by_cases hkn : k < nm
        · rw [rf_at hkn]
          refine W.eq (g2 := F0 m 19 ls (.ref (pm k) :: [])) rfl ?_
          have hqk : q = k := by omega
          have hdyk : dy_d x k (ng, 0, F, R) = (g, c9, F1, R1) := by rw [← hqk]; exact hdy
          obtain ⟨h4, hlim, hsnd⟩ : ¬ F1 4 k < 1 ∧ (0 ≤ (F1 2 k).toInt ∧ (F1 2 k).toInt ≤ 10000) ∧ (is_eq x (F1 2 k) → is_aw (F1 10 k) → g < 200) := by have := hdk k hkn; rw [hdyk] at this; exact this
          have hSA : sa_P no_A s H := sa_k hXa hS (fun q h => h.elim)
          refine lv_astore (lv' := [(4, .ref (pm k)), (0, .ref o), (1, .int x), (2, .int c9), (3, .int (nI k))]) hx hb d_T_passDueDay_19 hl (by decide) rfl (fun ls hl => ?_)
          refine lv_aload hx hb d_T_passDueDay_21 (lv_at hl 0 rfl) ?_
          refine lv_ifnull hx hb d_T_passDueDay_23 ?_
          refine lv_aload hx hb d_T_passDueDay_26 (lv_at hl 0 rfl) ?_
          refine lv_iload_n hx hb d_T_passDueDay_28 rfl (lv_at hl 2 rfl) ?_
          refine cp_V (n := 1) [.int x] hC (t_V_isDueOn l D cM cG cI cJ (pm k) F1 k x) ⟨kc_V_isDueOn, kn_V, k_T_233, ki_V_isDueOn, kv_V_isDueOn⟩ (by decide +kernel) ⟨rfl, rfl, Nat.le_of_ble_eq_true rfl, Nat.le_of_ble_eq_true rfl⟩ sa_2 (yt_Y D cM cG cI cJ) hY ⟨(wk_1 hP (mv_at hkn)), hSA⟩ (va_recv hK hP (ci := 1) (q0 := (k + 3)) rfl (mv_at hkn)) rfl hl.1 rfl (Nat.le_of_ble_eq_true rfl) d_T_passDueDay_29 ⟨hr1, hr2⟩ (fun r2 h3 => ?_)
          rcases h3 with ⟨rfl, b4⟩ | ⟨rfl, b4⟩
          · refine lv_if_ne (tgt := 38) hx hb d_T_passDueDay_32 (by decide) (fun _ => ?_) (fun q9 => absurd q9 (by decide))
            refine lv_iload_n hx hb d_T_passDueDay_38 rfl (lv_at hl 2 rfl) ?_
            refine lv_aload hx hb d_T_passDueDay_39 (lv_at hl 0 rfl) ?_
            refine va_get (D := D) (C := R_V) (T := F_V) (N := 19) hx hb htw uw_V hown hK hP (k + 3) (mv_at hkn) rfl 2 (by decide) (htw _ k_T_88) (fun _ h9 => h9) rfl d_T_passDueDay_41 ?_
            refine lv_bipush (v := 40) hx hb d_T_passDueDay_44 (by decide) ?_
            refine lv_iadd hx hb d_T_passDueDay_46 ?_
            refine lv_icmp_ne (tgt := 58) hx hb d_T_passDueDay_47 (by decide) (fun c5 => ?_) (fun c5 => ?_)
            · refine lv_aload hx hb d_T_passDueDay_58 (lv_at hl 0 rfl) ?_
              refine cp_V (n := 0) [] hC (t_V_isAwaited l D cM cG cI cJ (pm k) F1 k) ⟨kc_V_isAwaited, kn_V, k_T_239, ki_V_isAwaited, kv_V_isAwaited⟩ (by decide +kernel) ⟨rfl, rfl, Nat.le_of_ble_eq_true rfl, Nat.le_of_ble_eq_true rfl⟩ x_0 (yt_Y D cM cG cI cJ) hY (wk_1 hP (mv_at hkn)) (va_recv hK hP (ci := 1) (q0 := (k + 3)) rfl (mv_at hkn)) rfl hl.1 rfl (Nat.le_of_ble_eq_true rfl) d_T_passDueDay_60 ⟨hr1, hr2⟩ (fun r6 h7 => ?_)
              rcases h7 with ⟨rfl, b8⟩ | ⟨rfl, b8⟩
              · have b8 : is_aw (F1 10 k) := b8
                refine lv_if_eq (tgt := 108) hx hb d_T_passDueDay_63 (by decide) (fun q9 => absurd q9 (by decide)) (fun _ => ?_)
                refine lv_aload hx hb d_T_passDueDay_66 (lv_at hl 0 rfl) ?_
                refine lv_dup hx hb d_T_passDueDay_68 rfl ?_
                refine va_get (D := D) (C := R_V) (T := F_V) (N := 19) hx hb htw uw_V hown hK hP (k + 3) (mv_at hkn) rfl 13 (by decide) (htw _ k_T_161) (fun _ h9 => h9) rfl d_T_passDueDay_69 ?_
                refine lv_iconst (v := 1) hx hb d_T_passDueDay_72 (by decide) ?_
                refine lv_iadd hx hb d_T_passDueDay_73 ?_
                refine va_put (D := D) (ci := 1) (v := .int ((F1 13 k) + 1)) (ty := .int) (C := R_V) (T := F_V) (N := 19) hx hb htw uw_V ft_V tk_V n_V hown hK hP hD hS (k + 3) (mv_at hkn) rfl 13 (by decide) (htw _ k_T_161) (fun _ h9 => h9) rfl (by decide +kernel) rfl rfl (Nat.le_of_ble_eq_true rfl) d_T_passDueDay_74 (fun H locs hP hD hS => ?_)
                rw [mv_put hkn (by decide)] at hP hD
                have hP : va_P D cl_L (ws_C cM cG o am ag pm pg1 (off, nm, g, now, up_F F1 13 k ((F1 13 k) + 1), R1)) H := hP
                have hD : va_D A (ws_C cM cG o am ag pm pg1 (off, nm, g, now, up_F F1 13 k ((F1 13 k) + 1), R1)) := hD
                refine lv_aload hx hb d_T_passDueDay_77 (lv_at hl 0 rfl) ?_
                refine lv_iconst (v := 4) hx hb d_T_passDueDay_79 (by decide) ?_
                refine va_put (D := D) (ci := 1) (v := .int 4) (ty := .int) (C := R_V) (T := F_V) (N := 19) hx hb htw uw_V ft_V tk_V n_V hown hK hP hD hS (k + 3) (mv_at hkn) rfl 10 (by decide) (htw _ k_T_79) (fun _ h9 => h9) rfl (by decide +kernel) rfl rfl (Nat.le_of_ble_eq_true rfl) d_T_passDueDay_80 (fun H locs hP hD hS => ?_)
                rw [mv_put hkn (by decide)] at hP hD
                have hP : va_P D cl_L (ws_C cM cG o am ag pm pg1 (off, nm, g, now, up_F (up_F F1 13 k ((F1 13 k) + 1)) 10 k 4, R1)) H := hP
                have hD : va_D A (ws_C cM cG o am ag pm pg1 (off, nm, g, now, up_F (up_F F1 13 k ((F1 13 k) + 1)) 10 k 4, R1)) := hD
                refine lv_aload_n hx hb d_T_passDueDay_83 rfl (lv_at hl 1 rfl) ?_
                refine lv_iconst (v := 4) hx hb d_T_passDueDay_84 (by decide) ?_
                refine lv_iload_n hx hb d_T_passDueDay_85 rfl (lv_at hl 4 rfl) ?_
                refine lv_aload hx hb d_T_passDueDay_86 (lv_at hl 0 rfl) ?_
                refine va_get (D := D) (C := R_V) (T := F_V) (N := 19) hx hb htw uw_V hown hK hP (k + 3) (mv_at hkn) rfl 0 (by decide) (htw _ k_T_76) (fun _ h9 => h9) rfl d_T_passDueDay_88 ?_
                refine lv_aload hx hb d_T_passDueDay_91 (lv_at hl 0 rfl) ?_
                refine va_get (D := D) (C := R_V) (T := F_V) (N := 19) hx hb htw uw_V hown hK hP (k + 3) (mv_at hkn) rfl 1 (by decide) (htw _ k_T_99) (fun _ h9 => h9) rfl d_T_passDueDay_93 ?_
                refine lv_aload hx hb d_T_passDueDay_96 (lv_at hl 0 rfl) ?_
                refine va_get (D := D) (C := R_V) (T := F_V) (N := 19) hx hb htw uw_V hown hK hP (k + 3) (mv_at hkn) rfl 13 (by decide) (htw _ k_T_161) (fun _ h9 => h9) rfl d_T_passDueDay_98 ?_
                refine sk_as (y := ((F1 13 k) + 1)) (by simp [up_at]) ?_
                refine lv_iconst (v := 0) hx hb d_T_passDueDay_101 (by decide) ?_
                have hdyE : dy_d x (k + 1) (ng, 0, F, R) = (g + 1, c9 + 1, up_F (up_F F1 13 k (F1 13 k + 1)) 10 k 4, sn_R R1 g 4 (nI k) (F1 0 k) (F1 1 k) (F1 13 k + 1) 0) := by show dy_m x k (dy_d x k (ng, 0, F, R)) = _; rw [hdyk]; exact dm_eq c5 (((du_iff hlim hx1).mp b4).resolve_left c5) b8
                have hgN1 : g + 1 ≤ (dy_d x nm (ng, 0, F, R)).1 := by have := dy_mono x (ng, 0, F, R) (k + 1) nm (by omega); rw [hdyE] at this; exact this
                have hr3 : g - ng + 1 ≤ (dy_d x nm (ng, 0, F, R)).1 - ng := by omega
                have hr4 : 7 * (g - ng) + 7 ≤ 7 * ((dy_d x nm (ng, 0, F, R)).1 - ng) := by omega
                have hF9 := wk_F hD hS hA
                refine cm_V (n := 6) [.int 4, .int (nI k), .int (F1 0 k), .int (F1 1 k), .int ((F1 13 k) + 1), .int 0] hC (t_T_send l D cM cG cI cJ o am ag pm pg1 off nm g now (up_F (up_F F1 13 k ((F1 13 k) + 1)) 10 k 4) R1 _ 4 (nI k) (F1 0 k) (F1 1 k) ((F1 13 k) + 1) 0 (hsnd (((du_iff hlim hx1).mp b4).resolve_left c5) b8)) ⟨kc_T_send, kn_T, k_T_63, ki_T_send, kv_T_send⟩ (by decide +kernel) ⟨rfl, rfl, Nat.le_of_ble_eq_true rfl, Nat.le_of_ble_eq_true rfl⟩ x_0 (yt_Y D cM cG cI cJ) hY trivial (va_recv hK hP (ci := 0) (q0 := 0) rfl rfl) hP (wk_T hD) hS hF9 rfl hl.1 rfl (Nat.le_of_ble_eq_true rfl) d_T_passDueDay_102 ⟨hr3, hr4⟩ (fun pg9 H locs hw9 hP1 hD1 hz9 hk9 hS => ?_)
                have hP : va_P D cl_L (ws_C cM cG o am ag pm pg9 (off, nm, g + 1, now, up_F (up_F F1 13 k ((F1 13 k) + 1)) 10 k 4, sn_R R1 g 4 (nI k) (F1 0 k) (F1 1 k) ((F1 13 k) + 1) 0)) H := hP1
                have hD : va_D A (ws_C cM cG o am ag pm pg9 (off, nm, g + 1, now, up_F (up_F F1 13 k ((F1 13 k) + 1)) 10 k 4, sn_R R1 g 4 (nI k) (F1 0 k) (F1 1 k) ((F1 13 k) + 1) 0)) := wk_D hD1 hF9
                refine lv_iinc (v := c9 + 1) (lv' := [(2, .int (c9 + 1)), (4, .ref (pm k)), (0, .ref o), (1, .int x), (3, .int (nI k))]) hx hb d_T_passDueDay_105 hl (k := 3) rfl rfl (by decide) rfl (fun ls hl => ?_)
                refine lv_iinc (v := nI (k + 1)) (lv' := [(3, .int (nI (k + 1))), (2, .int (c9 + 1)), (4, .ref (pm k)), (0, .ref o), (1, .int x)]) hx hb d_T_passDueDay_108 hl (k := 4) rfl (nI_1 k) (by decide) rfl (fun ls hl => ?_)
                refine lv_goto (tgt := 4) hx hb d_T_passDueDay_111 (by decide) ?_
                have hdy2 : dy_d x (k + 1) (ng, 0, F, R) = (g + 1, (c9 + 1), up_F (up_F F1 13 k ((F1 13 k) + 1)) 10 k 4, sn_R R1 g 4 (nI k) (F1 0 k) (F1 1 k) ((F1 13 k) + 1) 0) := by show dy_m x k (dy_d x k (ng, 0, F, R)) = _; rw [hdyk]; exact dm_eq c5 (((du_iff hlim hx1).mp b4).resolve_left c5) b8
                have hgN2 : g + 1 ≤ (dy_d x nm (ng, 0, F, R)).1 := by have := dy_mono x (ng, 0, F, R) (k + 1) nm (by omega); rw [hdy2] at this; exact this
                refine W.widen (k := g + 1 - ng) (n := 7 * (g + 1 - ng)) (by omega) (by omega) ?_
                exact ih ls (k + 1) (k + 1) (g + 1) (c9 + 1) (up_F (up_F F1 13 k ((F1 13 k) + 1)) 10 k 4) (sn_R R1 g 4 (nI k) (F1 0 k) (F1 1 k) ((F1 13 k) + 1) 0) pg9 H locs (by omega) (Or.inl ⟨by omega, rfl⟩) hdy2 hP hD hS (lv_sub hl [3, 4, 1, 0] rfl) (by omega)
              · have b8 : ¬ is_aw (F1 10 k) := b8
                refine lv_if_eq (tgt := 108) hx hb d_T_passDueDay_63 (by decide) (fun _ => ?_) (fun q9 => absurd rfl q9)
                refine lv_iinc (v := nI (k + 1)) (lv' := [(3, .int (nI (k + 1))), (4, .ref (pm k)), (0, .ref o), (1, .int x), (2, .int c9)]) hx hb d_T_passDueDay_108 hl (k := 4) rfl (nI_1 k) (by decide) rfl (fun ls hl => ?_)
                refine lv_goto (tgt := 4) hx hb d_T_passDueDay_111 (by decide) ?_
                have hdy2 : dy_d x (k + 1) (ng, 0, F, R) = (g, c9, F1, R1) := by show dy_m x k (dy_d x k (ng, 0, F, R)) = _; rw [hdyk]; exact dm_no c5 (fun q => b8 q.2)
                exact ih ls (k + 1) (k + 1) (g) c9 F1 R1 pg1 H locs (by omega) (Or.inl ⟨by omega, rfl⟩) hdy2 hP hD hS (lv_sub hl [2, 3, 4, 0] rfl) (by omega)
            · refine lv_aload hx hb d_T_passDueDay_50 (lv_at hl 0 rfl) ?_
              refine cm_V (n := 0) [] hC (t_V_recover l D cM cG cI cJ (pm k) F1 k _  h4) ⟨kc_V_recover, kn_V, k_T_236, ki_V_recover, kv_V_recover⟩ (by decide +kernel) ⟨rfl, rfl, Nat.le_of_ble_eq_true rfl, Nat.le_of_ble_eq_true rfl⟩ x_0 (yt_Y D cM cG cI cJ) hY trivial (va_recv hK hP (ci := 1) (q0 := (k + 3)) rfl (mv_at hkn)) (wk_1 hP (mv_at hkn)) (wk_1D trivial) hS (wk_F1 hD hS hA (mv_at hkn)) rfl hl.1 rfl (Nat.le_of_ble_eq_true rfl) d_T_passDueDay_52 ⟨hr1, hr2⟩ (fun _ H locs _ hP1 hD1 hz9 hk9 hS => ?_)
              obtain ⟨hP, hD⟩ := jn_1 hP hD (mv_at hkn) hk9 hP1
              rw [mv_set hkn (fun k j hj => rc_ni hj)] at hP hD
              have hP : va_P D cl_L (ws_C cM cG o am ag pm pg1 (off, nm, g, now, rc_F F1 k, R1)) H := hP
              have hD : va_D A (ws_C cM cG o am ag pm pg1 (off, nm, g, now, rc_F F1 k, R1)) := hD
              refine lv_goto (tgt := 108) hx hb d_T_passDueDay_55 (by decide) ?_
              refine lv_iinc (v := nI (k + 1)) (lv' := [(3, .int (nI (k + 1))), (4, .ref (pm k)), (0, .ref o), (1, .int x), (2, .int c9)]) hx hb d_T_passDueDay_108 hl (k := 4) rfl (nI_1 k) (by decide) rfl (fun ls hl => ?_)
              refine lv_goto (tgt := 4) hx hb d_T_passDueDay_111 (by decide) ?_
              have hdy2 : dy_d x (k + 1) (ng, 0, F, R) = (g, c9, rc_F F1 k, R1) := by show dy_m x k (dy_d x k (ng, 0, F, R)) = _; rw [hdyk]; exact dm_rc c5
              refine W.widen (k := g - ng) (n := 7 * (g - ng)) (by omega) (by omega) ?_
              exact ih ls (k + 1) (k + 1) (g) c9 (rc_F F1 k) R1 pg1 H locs (by omega) (Or.inl ⟨by omega, rfl⟩) hdy2 hP hD hS (lv_sub hl [2, 3, 4, 0] rfl) (by omega)
          · refine lv_if_ne (tgt := 38) hx hb d_T_passDueDay_32 (by decide) (fun q9 => absurd rfl q9) (fun _ => ?_)
            refine lv_goto (tgt := 108) hx hb d_T_passDueDay_35 (by decide) ?_
            refine lv_iinc (v := nI (k + 1)) (lv' := [(3, .int (nI (k + 1))), (4, .ref (pm k)), (0, .ref o), (1, .int x), (2, .int c9)]) hx hb d_T_passDueDay_108 hl (k := 4) rfl (nI_1 k) (by decide) rfl (fun ls hl => ?_)
            refine lv_goto (tgt := 4) hx hb d_T_passDueDay_111 (by decide) ?_
            have hdy2 : dy_d x (k + 1) (ng, 0, F, R) = (g, c9, F1, R1) := by show dy_m x k (dy_d x k (ng, 0, F, R)) = _; rw [hdyk]; exact dm_no (fun q => b4 ((du_iff hlim hx1).mpr (Or.inl q))) (fun q => b4 ((du_iff hlim hx1).mpr (Or.inr q.1)))
            exact ih ls (k + 1) (k + 1) (g) c9 F1 R1 pg1 H locs (by omega) (Or.inl ⟨by omega, rfl⟩) hdy2 hP hD hS (lv_sub hl [2, 3, 4, 0] rfl) (by omega)
        · rw [rf_no (Nat.not_lt.mp hkn)]
          refine W.eq (g2 := F0 m 19 ls (.null :: [])) rfl ?_
          refine lv_astoreN (lv' := [(4, .null), (0, .ref o), (1, .int x), (2, .int c9), (3, .int (nI k))]) hx hb d_T_passDueDay_19 hl (by decide) rfl (fun ls hl => ?_)
          refine lv_aloadN hx hb d_T_passDueDay_21 (lv_at hl 0 rfl) ?_
          refine lv_ifnullN (tgt := 108) hx hb d_T_passDueDay_23 (by decide) ?_
          refine lv_iinc (v := nI (k + 1)) (lv' := [(3, .int (nI (k + 1))), (4, .null), (0, .ref o), (1, .int x), (2, .int c9)]) hx hb d_T_passDueDay_108 hl (k := 4) rfl (nI_1 k) (by decide) rfl (fun ls hl => ?_)
          refine lv_goto (tgt := 4) hx hb d_T_passDueDay_111 (by decide) ?_
          exact ih ls (k + 1) q g c9 F1 R1 pg1 H locs (by omega) (Or.inr ⟨by omega, by omega⟩) hdy hP hD hS (lv_sub hl [2, 3, 4, 0] rfl) (by omega)
  rw [hgg, hH1, hH2] at hgo
  exact hgo
