theorem ce_Z {M P : Int} (hP : 1 ≤ P) : (M + P - 1) / P = M / P + (if 0 < M - M / P * P then 1 else 0) := by
  have h0 : P ≠ 0 := by omega
  have e1 : M - M / P * P = M % P := by rw [Int.emod_def, Int.mul_comm (M / P) P]
  have h1 := Int.emod_nonneg M h0
  have h2 := Int.emod_lt_of_pos M (show 0 < P by omega)
  have e2 : M + P - 1 = (M % P + P - 1) + M / P * P := by omega
  rw [e1, e2, Int.add_mul_ediv_right _ _ h0]
  by_cases h : 0 < M % P
  · rw [if_pos h, show M % P + P - 1 = (M % P - 1) + 1 * P by omega, Int.add_mul_ediv_right _ _ h0, Int.ediv_eq_zero_of_lt (by omega) (by omega)]
    omega
  · rw [if_neg h, Int.ediv_eq_zero_of_lt (by omega) (by omega)]
    omega
section RV
variable {a P k : Int32}
theorem rv_b (ha : 0 ≤ a.toInt ∧ a.toInt ≤ 1000000) (hP : 1 ≤ P.toInt ∧ P.toInt ≤ 1000) (hk : 0 ≤ k.toInt ∧ k.toInt ≤ P.toInt) : 0 ≤ a.toInt * (P.toInt - k.toInt) ∧ a.toInt * (P.toInt - k.toInt) ≤ 1000000000 := by
  refine ⟨Int.mul_nonneg ha.1 (by omega), ?_⟩
  have := Int.mul_le_mul ha.2 (show P.toInt - k.toInt ≤ 1000 by omega) (by omega) (by decide)
  omega
theorem rv_m (ha : 0 ≤ a.toInt ∧ a.toInt ≤ 1000000) (hP : 1 ≤ P.toInt ∧ P.toInt ≤ 1000) (hk : 0 ≤ k.toInt ∧ k.toInt ≤ P.toInt) : (a.toInt64 * (P - k).toInt64).toInt = a.toInt * (P.toInt - k.toInt) := by
  have hb := rv_b ha hP hk
  have hs : (P - k).toInt = P.toInt - k.toInt := i_sub (by omega) (by omega)
  rw [Int64.toInt_mul, Jvm.Kit.i64_of_i32, Jvm.Kit.i64_of_i32, hs]
  exact Int.bmod_eq_of_le (by omega) (by omega)
theorem rv_d (ha : 0 ≤ a.toInt ∧ a.toInt ≤ 1000000) (hP : 1 ≤ P.toInt ∧ P.toInt ≤ 1000) (hk : 0 ≤ k.toInt ∧ k.toInt ≤ P.toInt) : (a.toInt64 * (P - k).toInt64 / P.toInt64).toInt = a.toInt * (P.toInt - k.toInt) / P.toInt := by
  have hb := rv_b ha hP hk
  rw [lg_ldiv_nonneg (by rw [rv_m ha hP hk]; omega) (by rw [Jvm.Kit.i64_of_i32]; omega), rv_m ha hP hk, Jvm.Kit.i64_of_i32]
theorem rv_q (ha : 0 ≤ a.toInt ∧ a.toInt ≤ 1000000) (hP : 1 ≤ P.toInt ∧ P.toInt ≤ 1000) (hk : 0 ≤ k.toInt ∧ k.toInt ≤ P.toInt) : 0 ≤ a.toInt * (P.toInt - k.toInt) / P.toInt ∧ a.toInt * (P.toInt - k.toInt) / P.toInt ≤ 1000000000 ∧ 0 ≤ a.toInt * (P.toInt - k.toInt) / P.toInt * P.toInt ∧ a.toInt * (P.toInt - k.toInt) / P.toInt * P.toInt ≤ a.toInt * (P.toInt - k.toInt) := by
  have hb := rv_b ha hP hk
  have h1 := Int.ediv_nonneg hb.1 (show 0 ≤ P.toInt by omega)
  have h2 := Int.ediv_le_self (a := a.toInt * (P.toInt - k.toInt)) P.toInt hb.1
  have h3 := Int.ediv_mul_le (a.toInt * (P.toInt - k.toInt)) (show P.toInt ≠ 0 by omega)
  exact ⟨h1, by omega, Int.mul_nonneg h1 (by omega), h3⟩
theorem rv_c (ha : 0 ≤ a.toInt ∧ a.toInt ≤ 1000000) (hP : 1 ≤ P.toInt ∧ P.toInt ≤ 1000) (hk : 0 ≤ k.toInt ∧ k.toInt ≤ P.toInt) : lg_cmp (a.toInt64 * (P - k).toInt64 - a.toInt64 * (P - k).toInt64 / P.toInt64 * P.toInt64) 0 ≤ 0 ↔ ¬ 0 < a.toInt * (P.toInt - k.toInt) - a.toInt * (P.toInt - k.toInt) / P.toInt * P.toInt := by
  have hb := rv_b ha hP hk
  have hq := rv_q ha hP hk
  have e1 : (a.toInt64 * (P - k).toInt64 / P.toInt64 * P.toInt64).toInt = a.toInt * (P.toInt - k.toInt) / P.toInt * P.toInt := by
    rw [Int64.toInt_mul, rv_d ha hP hk, Jvm.Kit.i64_of_i32]
    exact Int.bmod_eq_of_le (by omega) (by omega)
  have e2 : (a.toInt64 * (P - k).toInt64 - a.toInt64 * (P - k).toInt64 / P.toInt64 * P.toInt64).toInt = a.toInt * (P.toInt - k.toInt) - a.toInt * (P.toInt - k.toInt) / P.toInt * P.toInt := by
    rw [Int64.toInt_sub, e1, rv_m ha hP hk]
    exact Int.bmod_eq_of_le (by omega) (by omega)
  have e0 : (0 : Int64).toInt = 0 := rfl
  rw [lg_cmp_le, Int64.le_iff_toInt_le, e2, e0]
  omega
theorem rv_s (ha : 0 ≤ a.toInt ∧ a.toInt ≤ 1000000) (hP : 1 ≤ P.toInt ∧ P.toInt ≤ 1000) (hk : 0 ≤ k.toInt ∧ k.toInt ≤ P.toInt) : ((a * (P - k) + P - 1) / P).toInt = a.toInt * (P.toInt - k.toInt) / P.toInt + (if 0 < a.toInt * (P.toInt - k.toInt) - a.toInt * (P.toInt - k.toInt) / P.toInt * P.toInt then 1 else 0) := by
  have hb := rv_b ha hP hk
  have o1 : (1 : Int32).toInt = 1 := rfl
  have hs : (P - k).toInt = P.toInt - k.toInt := i_sub (by omega) (by omega)
  have e1 : (a * (P - k)).toInt = a.toInt * (P.toInt - k.toInt) := by rw [i_mul (by rw [hs]; omega) (by rw [hs]; omega), hs]
  have e2 : (a * (P - k) + P).toInt = a.toInt * (P.toInt - k.toInt) + P.toInt := by rw [i_add (by rw [e1]; omega) (by rw [e1]; omega), e1]
  have e3 : (a * (P - k) + P - 1).toInt = a.toInt * (P.toInt - k.toInt) + P.toInt - 1 := by rw [i_sub (by rw [e2, o1]; omega) (by rw [e2, o1]; omega), e2, o1]
  rw [lg_idiv_nonneg (by rw [e3]; omega) (by omega), e3, ce_Z hP.1]
theorem rv_e (ha : 0 ≤ a.toInt ∧ a.toInt ≤ 1000000) (hP : 1 ≤ P.toInt ∧ P.toInt ≤ 1000) (hk : 0 ≤ k.toInt ∧ k.toInt ≤ P.toInt) {z : Int64} (hz : z.toInt = if 0 < a.toInt * (P.toInt - k.toInt) - a.toInt * (P.toInt - k.toInt) / P.toInt * P.toInt then 1 else 0) : (a.toInt64 * (P - k).toInt64 / P.toInt64 + z).toInt32 = (a * (P - k) + P - 1) / P := by
  have hq := rv_q ha hP hk
  have hz2 : 0 ≤ z.toInt ∧ z.toInt ≤ 1 := by rw [hz]; split <;> decide
  have e1 : (a.toInt64 * (P - k).toInt64 / P.toInt64 + z).toInt = a.toInt * (P.toInt - k.toInt) / P.toInt + z.toInt := by
    rw [Int64.toInt_add, rv_d ha hP hk]
    exact Int.bmod_eq_of_le (by omega) (by omega)
  rw [i_eq, rv_s ha hP hk, Jvm.Kit.i32_of_i64 (by rw [e1]; omega) (by rw [e1]; omega), e1, hz]
theorem rv_le (ha : 0 ≤ a.toInt ∧ a.toInt ≤ 1000000) (hP : 1 ≤ P.toInt ∧ P.toInt ≤ 1000) (hk : 0 ≤ k.toInt ∧ k.toInt ≤ P.toInt) (h : lg_cmp (a.toInt64 * (P - k).toInt64 - a.toInt64 * (P - k).toInt64 / P.toInt64 * P.toInt64) 0 ≤ 0) : (a.toInt64 * (P - k).toInt64 / P.toInt64 + 0).toInt32 = (a * (P - k) + P - 1) / P :=
  rv_e ha hP hk (by rw [if_neg ((rv_c ha hP hk).mp h)]; rfl)
theorem rv_gt (ha : 0 ≤ a.toInt ∧ a.toInt ≤ 1000000) (hP : 1 ≤ P.toInt ∧ P.toInt ≤ 1000) (hk : 0 ≤ k.toInt ∧ k.toInt ≤ P.toInt) (h : ¬ lg_cmp (a.toInt64 * (P - k).toInt64 - a.toInt64 * (P - k).toInt64 / P.toInt64 * P.toInt64) 0 ≤ 0) : (a.toInt64 * (P - k).toInt64 / P.toInt64 + 1).toInt32 = (a * (P - k) + P - 1) / P :=
  rv_e ha hP hk (by rw [if_pos (Classical.not_not.mp (fun q => h ((rv_c ha hP hk).mpr q)))]; rfl)
theorem rv_0 (hP : 1 ≤ P.toInt) : ¬ P.toInt64 = 0 := by
  intro h
  have := congrArg Int64.toInt h
  rw [Jvm.Kit.i64_of_i32] at this
  have e0 : (0 : Int64).toInt = 0 := rfl
  omega
end RV
theorem sb_e {a b c : Int32} : a - b = c ↔ a = b + c := by
  constructor
  · intro h
    rw [← h, Int32.add_comm, Int32.sub_add_cancel]
  · intro h
    rw [h, Int32.add_comm, Int32.add_sub_cancel]
theorem dm_c (d : Int32) (i : Nat) (x : dy_T) (j : Nat) {k : Nat} (h10 : k ≠ 10) (h12 : k ≠ 12) (h13 : k ≠ 13) : (dy_m d i x).2.2.1 k j = x.2.2.1 k j := by
  obtain ⟨g, c, F, R⟩ := x
  simp only [dy_m]
  split
  · split
    · rfl
    · show up_F (up_F F 12 i (rv_I F i)) 10 i 5 k j = F k j
      rw [up_nk h10, up_nk h12]
  · split
    · show up_F (up_F F 13 i (F 13 i + 1)) 10 i 4 k j = F k j
      rw [up_nk h10, up_nk h13]
    · rfl
theorem ds_c (nm t : Nat) (x : dy_T) (j : Nat) {k : Nat} (h10 : k ≠ 10) (h12 : k ≠ 12) (h13 : k ≠ 13) : ∀ n, (dy_s nm t n x).2.2.1 k j = x.2.2.1 k j := by
  have hd : ∀ (d : Int32) (x : dy_T) (n : Nat), (dy_d d n x).2.2.1 k j = x.2.2.1 k j := by
    intro d x n
    induction n with
    | zero => rfl
    | succ n ih => exact (dm_c d n _ j h10 h12 h13).trans ih
  intro n
  induction n with
  | zero => rfl
  | succ n ih => exact (hd _ _ nm).trans ih
theorem sr_ti {off now off2 now2 : Int32} {nm ng g t n : Nat} {c : Int32} {F F1 : Nat → Nat → Int32} {R R1 : Nat → Int32} {S : Nat → Int32} (h : sr_P S (off, nm, ng, now, F, R)) (hd : dy_s nm t n (ng, 0, F, R) = (g, c, F1, R1)) : sr_P S (off2, nm, g, now2, F1, R1) := by
  intro j hj h6
  have e6 := ds_c nm t (ng, 0, F, R) j (k := 6) (by decide) (by decide) (by decide) n
  have e7 := ds_c nm t (ng, 0, F, R) j (k := 7) (by decide) (by decide) (by decide) n
  rw [hd] at e6 e7
  have e6 : F1 6 j = F 6 j := e6
  have e7 : F1 7 j = F 7 j := e7
  rw [e7]
  exact h j hj (by rw [← e6]; exact h6)
set_option maxHeartbeats 4000000 in
set_option maxRecDepth 100000 in
theorem t_N_count (l : Launch) (D : va_G) (cM cG cI cJ : ClassId) (r rr : Nat) (ra : Nat → Nat) (th : Int32) (Sr : Nat → Int32) (off : Int32) (nm ng : Nat) (now : Int32) (F : Nat → Nat → Int32) (R : Nat → Int32) (sz : Nat) (x : Int32) (t9 : Nat) (hI : iv_S t9 (off, nm, ng, now, F, R)) (hSr : sr_P Sr (off, nm, ng, now, F, R)) : Met l y_N_count (Cond.code y_N_count c_N_count 7 (some .int) :: tw_L) ({ frames := 0, cells := 0, slots := 0, locals := 0 } : Room) (mu_P D (ws_N cI r rr ra th Sr (off, nm, ng, now, F, R)) sz (fun _ _ => True) (yt_P D cM cG cI cJ) [.ref r, .int x]) (va_Qi (fun (v : Int32) (_ : Unit) => v = sp_ct (off, nm, ng, now, F, R) x) (mu_B D (ws_N cI r rr ra th Sr (off, nm, ng, now, F, R)) sz (fun _ => ws_N cI r rr ra 0 Sr (off, nm, ng, now, F, R))) (va_A (ws_N cI r rr ra th Sr (off, nm, ng, now, F, R)) sz)) 0 0 (va_A (ws_N cI r rr ra th Sr (off, nm, ng, now, F, R)) sz) := by
  refine Met.ofW (cc := c_N_count) (maxL := 7) (ret := (some .int)) (by decide) rfl ?_
  intro p e s m args below meth c s₁ B hml hv
  obtain ⟨rfl, hsz, hP, hD0, hX, hY⟩ := hv
  have hx := B.exec
  have hb := B.bytes
  have hr := B.returns
  have htw : ∀ w ∈ tw_L, w.before _ s = true := fun w hw => atoms_spec (ws := (Cond.code y_N_count c_N_count 7 (some .int) :: tw_L)) B.pre w (List.mem_cons_of_mem _ hw)
  have hown : s.vm.findClass R_N = some m.cls := findClass_of_methodNamed B.named
  have hlocks := B.notSynchronized
  have hC : CallFix p m c c_N_count 7 s _ tw_L R_N := ⟨hx, hb, hml, hown, htw⟩
  have hK := hY.1
  have hl := lv_entry ([.ref r, .int x]) (n := 7) (Nat.le_of_ble_eq_true rfl)
  rw [lg_entry_eq]
  generalize (lg_sl ([.ref r, .int x]) ++ List.replicate (7 - (lg_sl ([.ref r, .int x])).length) Slot.unset).toArray = ls at hl ⊢
  have hl : lv_has ls 7 [(0, .ref r), (1, .int x)] := hl
  subst hsz
  obtain ⟨A, hAe⟩ : ∃ A : Nat → Prop, A = va_A (ws_N cI r rr ra th Sr (off, nm, ng, now, F, R)) s.heap.size := ⟨_, rfl⟩
  have hD : va_D A (ws_N cI r rr ra th Sr (off, nm, ng, now, F, R)) := by rw [hAe]; exact hD0.self
  have hA : ∀ q : Nat, s.heap.size ≤ q → A q := fun q h => by rw [hAe]; exact Or.inr h
  have hS : va_S A s.heap s.heap [] := va_S.rf
  obtain ⟨hof, hn20, hnow, ht4, hM, hZ, hG, hcn⟩ := id hI
  have hg200 : ng ≤ 200 := by have := cn_0 hM hcn; omega
  refine lv_aload_n hx hb d_N_count_0 rfl (lv_at hl 0 rfl) ?_
  refine lv_iconst (v := 0) hx hb d_N_count_1 (by decide) ?_
  refine va_put (D := D) (ci := 3) (v := .int 0) (ty := .int) (C := R_N) (T := F_N) (N := 25) hx hb htw uw_N ft_N tk_N n_N hown hK hP hD hS 0 rfl rfl 0 (by decide) (htw _ k_N_74) (fun _ h9 => h9) rfl (by decide +kernel) rfl rfl (Nat.le_of_ble_eq_true rfl) d_N_count_2 (fun H locs hP hD hS => ?_)
  have hP : va_P D cl_L (ws_N cI r rr ra 0 Sr (off, nm, ng, now, F, R)) H := hP
  have hD : va_D A (ws_N cI r rr ra 0 Sr (off, nm, ng, now, F, R)) := hD
  refine lv_iconst (v := 0) hx hb d_N_count_5 (by decide) ?_
  refine lv_istore_n (lv' := [(2, .int 0), (0, .ref r), (1, .int x)]) hx hb d_N_count_6 rfl hl (by decide) rfl (fun ls hl => ?_)
  refine lv_iconst (v := 0) hx hb d_N_count_7 (by decide) ?_
  refine lv_istore_n (lv' := [(3, .int 0), (2, .int 0), (0, .ref r), (1, .int x)]) hx hb d_N_count_8 rfl hl (by decide) rfl (fun ls hl => ?_)
  refine lv_iconst (v := 0) hx hb d_N_count_9 (by decide) ?_
  refine lv_istore (lv' := [(4, .int 0), (3, .int 0), (2, .int 0), (0, .ref r), (1, .int x)]) hx hb d_N_count_10 hl (by decide) rfl (fun ls hl => ?_)
  refine lv_iconst (v := 0) hx hb d_N_count_12 (by decide) ?_
  refine lv_istore (lv' := [(5, .int 0), (4, .int 0), (3, .int 0), (2, .int 0), (0, .ref r), (1, .int x)]) hx hb d_N_count_13 hl (by decide) rfl (fun ls hl => ?_)
  replace hl : lv_has ls 7 [(0, .ref r), (1, .int x), (2, .int (sm_I (fun i => if is_en (F 10 i) then 0 else F 5 i) 0)), (3, .int (sm_I (fun i => F 12 i) 0)), (4, .int (sm_I (fun i => if is_en (F 10 i) then 1 else 0) 0)), (5, .int (nI 0))] := lv_sub hl [4, 5, 3, 2, 1, 0] rfl
  obtain ⟨k, hk, hl9⟩ : ∃ k : Nat, k ≤ nm ∧ lv_has ls 7 [(0, .ref r), (1, .int x), (2, .int (sm_I (fun i => if is_en (F 10 i) then 0 else F 5 i) k)), (3, .int (sm_I (fun i => F 12 i) k)), (4, .int (sm_I (fun i => if is_en (F 10 i) then 1 else 0) k)), (5, .int (nI k))] := ⟨0, Nat.zero_le _, hl⟩
  clear hl
  have hl := hl9
  clear hl9
  obtain ⟨n9, hn9⟩ : ∃ n9 : Nat, nm + 1 ≤ k + n9 := ⟨nm + 1, by omega⟩
  induction n9 generalizing k ls with
  | zero => exfalso; omega
  | succ n9 ih =>
    refine lv_iload hx hb d_N_count_15 (lv_at hl 5 rfl) ?_
    refine lv_aload_n hx hb d_N_count_17 rfl (lv_at hl 0 rfl) ?_
    refine va_get (D := D) (C := R_N) (T := F_N) (N := 25) hx hb htw uw_N hown hK hP 0 rfl rfl 2 (by decide) (htw _ k_N_77) (fun _ h9 => h9) rfl d_N_count_18 ?_
    refine lv_icmp_ge (tgt := 86) hx hb d_N_count_21 (by decide) (fun c1 => ?_) (fun c1 => ?_)
    · have hkn : k = nm := by have := lp_ge (n := nm) c1 (by omega) (i_nI (by omega)); omega
      rw [hkn] at hl
      refine lv_iconst (v := 0) hx hb d_N_count_86 (by decide) ?_
      refine lv_istore (lv' := [(5, .int 0), (0, .ref r), (1, .int x), (2, .int (sm_I (fun i => if is_en (F 10 i) then 0 else F 5 i) nm)), (3, .int (sm_I (fun i => F 12 i) nm)), (4, .int (sm_I (fun i => if is_en (F 10 i) then 1 else 0) nm))]) hx hb d_N_count_87 hl (by decide) rfl (fun ls hl => ?_)
      refine lv_iconst (v := 0) hx hb d_N_count_89 (by decide) ?_
      refine lv_istore (lv' := [(6, .int 0), (5, .int 0), (0, .ref r), (1, .int x), (2, .int (sm_I (fun i => if is_en (F 10 i) then 0 else F 5 i) nm)), (3, .int (sm_I (fun i => F 12 i) nm)), (4, .int (sm_I (fun i => if is_en (F 10 i) then 1 else 0) nm))]) hx hb d_N_count_90 hl (by decide) rfl (fun ls hl => ?_)
      replace hl : lv_has ls 7 [(0, .ref r), (1, .int x), (2, .int (sm_I (fun i => if is_en (F 10 i) then 0 else F 5 i) nm)), (3, .int (sm_I (fun i => F 12 i) nm)), (4, .int (sm_I (fun i => if is_en (F 10 i) then 1 else 0) nm)), (5, .int (sm_I (fun j => if R (7 * j + 6) = 0 then 1 else 0) 0)), (6, .int (nI 0))] := lv_sub hl [2, 3, 4, 5, 6, 1, 0] rfl
      obtain ⟨q, hq, hl9⟩ : ∃ q : Nat, q ≤ ng ∧ lv_has ls 7 [(0, .ref r), (1, .int x), (2, .int (sm_I (fun i => if is_en (F 10 i) then 0 else F 5 i) nm)), (3, .int (sm_I (fun i => F 12 i) nm)), (4, .int (sm_I (fun i => if is_en (F 10 i) then 1 else 0) nm)), (5, .int (sm_I (fun j => if R (7 * j + 6) = 0 then 1 else 0) q)), (6, .int (nI q))] := ⟨0, Nat.zero_le _, hl⟩
      clear hl
      have hl := hl9
      clear hl9
      obtain ⟨n8, hn8⟩ : ∃ n8 : Nat, ng + 1 ≤ q + n8 := ⟨ng + 1, by omega⟩
      induction n8 generalizing q ls with
      | zero => exfalso; omega
      | succ n8 ih8 =>
        refine lv_iload hx hb d_N_count_92 (lv_at hl 6 rfl) ?_
        refine lv_aload_n hx hb d_N_count_94 rfl (lv_at hl 0 rfl) ?_
        refine va_get (D := D) (C := R_N) (T := F_N) (N := 25) hx hb htw uw_N hown hK hP 0 rfl rfl 3 (by decide) (htw _ k_N_80) (fun _ h9 => h9) rfl d_N_count_95 ?_
        refine lv_icmp_ge (tgt := 133) hx hb d_N_count_98 (by decide) (fun c2 => ?_) (fun c2 => ?_)
        · have hqn : q = ng := by have := lp_ge (n := ng) c2 (by omega) (i_nI (by omega)); omega
          rw [hqn] at hl
          refine lv_iload_n hx hb d_N_count_133 rfl (lv_at hl 1 rfl) ?_
          by_cases e3 : x = 0
          · refine sk_as e3 ?_
            refine lv_tableIn (off := 46) (tgt := 180) hx hb d_N_count_134 (by decide) (by decide) rfl (by decide) ?_
            refine lv_aload_n hx hb d_N_count_180 rfl (lv_at hl 0 rfl) ?_
            refine va_get (D := D) (C := R_N) (T := F_N) (N := 25) hx hb htw uw_N hown hK hP 0 rfl rfl 1 (by decide) (htw _ k_N_70) (fun _ h9 => h9) rfl d_N_count_181 ?_
            subst hAe
            have e_S : sp_ct (off, nm, ng, now, F, R) x = off := by simp only [sp_ct]; rw [if_pos e3]
            exact W.iret (v := off) hx hb hr (fun t ht hW => ⟨⟨_, (), rfl, e_S.symm, by rw [ht]; exact hP, hD⟩, hS.F ht⟩) hS.2.2 d_N_count_184
          · by_cases e4 : x = 1
            · refine sk_as e4 ?_
              refine lv_tableIn (off := 51) (tgt := 185) hx hb d_N_count_134 (by decide) (by decide) rfl (by decide) ?_
              refine lv_aload_n hx hb d_N_count_185 rfl (lv_at hl 0 rfl) ?_
              refine va_get (D := D) (C := R_N) (T := F_N) (N := 25) hx hb htw uw_N hown hK hP 0 rfl rfl 2 (by decide) (htw _ k_N_77) (fun _ h9 => h9) rfl d_N_count_186 ?_
              subst hAe
              have e_S : sp_ct (off, nm, ng, now, F, R) x = (nI nm) := by simp only [sp_ct]; rw [if_neg e3, if_pos e4]
              exact W.iret (v := (nI nm)) hx hb hr (fun t ht hW => ⟨⟨_, (), rfl, e_S.symm, by rw [ht]; exact hP, hD⟩, hS.F ht⟩) hS.2.2 d_N_count_189
            · by_cases e5 : x = 2
              · refine sk_as e5 ?_
                refine lv_tableIn (off := 56) (tgt := 190) hx hb d_N_count_134 (by decide) (by decide) rfl (by decide) ?_
                refine lv_aload_n hx hb d_N_count_190 rfl (lv_at hl 0 rfl) ?_
                refine va_get (D := D) (C := R_N) (T := F_N) (N := 25) hx hb htw uw_N hown hK hP 0 rfl rfl 3 (by decide) (htw _ k_N_80) (fun _ h9 => h9) rfl d_N_count_191 ?_
                subst hAe
                have e_S : sp_ct (off, nm, ng, now, F, R) x = (nI ng) := by simp only [sp_ct]; rw [if_neg e3, if_neg e4, if_pos e5]
                exact W.iret (v := (nI ng)) hx hb hr (fun t ht hW => ⟨⟨_, (), rfl, e_S.symm, by rw [ht]; exact hP, hD⟩, hS.F ht⟩) hS.2.2 d_N_count_194
              · by_cases e6 : x = 3
                · refine sk_as e6 ?_
                  refine lv_tableIn (off := 61) (tgt := 195) hx hb d_N_count_134 (by decide) (by decide) rfl (by decide) ?_
                  refine lv_aload_n hx hb d_N_count_195 rfl (lv_at hl 0 rfl) ?_
                  refine va_get (D := D) (C := R_N) (T := F_N) (N := 25) hx hb htw uw_N hown hK hP 0 rfl rfl 4 (by decide) (htw _ k_N_87) (fun _ h9 => h9) rfl d_N_count_196 ?_
                  subst hAe
                  have e_S : sp_ct (off, nm, ng, now, F, R) x = now := by simp only [sp_ct]; rw [if_neg e3, if_neg e4, if_neg e5, if_pos e6]
                  exact W.iret (v := now) hx hb hr (fun t ht hW => ⟨⟨_, (), rfl, e_S.symm, by rw [ht]; exact hP, hD⟩, hS.F ht⟩) hS.2.2 d_N_count_199
                · by_cases e7 : x = 4
                  · refine sk_as e7 ?_
                    refine lv_tableIn (off := 66) (tgt := 200) hx hb d_N_count_134 (by decide) (by decide) rfl (by decide) ?_
                    refine lv_iload_n hx hb d_N_count_200 rfl (lv_at hl 2 rfl) ?_
                    subst hAe
                    have e_S : sp_ct (off, nm, ng, now, F, R) x = (sm_I (fun i => if is_en (F 10 i) then 0 else F 5 i) nm) := by simp only [sp_ct]; rw [if_neg e3, if_neg e4, if_neg e5, if_neg e6, if_pos e7]
                    exact W.iret (v := (sm_I (fun i => if is_en (F 10 i) then 0 else F 5 i) nm)) hx hb hr (fun t ht hW => ⟨⟨_, (), rfl, e_S.symm, by rw [ht]; exact hP, hD⟩, hS.F ht⟩) hS.2.2 d_N_count_201
                  · by_cases e8 : x = 5
                    · refine sk_as e8 ?_
                      refine lv_tableIn (off := 68) (tgt := 202) hx hb d_N_count_134 (by decide) (by decide) rfl (by decide) ?_
                      refine lv_iload_n hx hb d_N_count_202 rfl (lv_at hl 3 rfl) ?_
                      subst hAe
                      have e_S : sp_ct (off, nm, ng, now, F, R) x = (sm_I (fun i => F 12 i) nm) := by simp only [sp_ct]; rw [if_neg e3, if_neg e4, if_neg e5, if_neg e6, if_neg e7, if_pos e8]
                      exact W.iret (v := (sm_I (fun i => F 12 i) nm)) hx hb hr (fun t ht hW => ⟨⟨_, (), rfl, e_S.symm, by rw [ht]; exact hP, hD⟩, hS.F ht⟩) hS.2.2 d_N_count_203
                    · by_cases e9 : x = 6
                      · refine sk_as e9 ?_
                        refine lv_tableIn (off := 70) (tgt := 204) hx hb d_N_count_134 (by decide) (by decide) rfl (by decide) ?_
                        refine lv_iload hx hb d_N_count_204 (lv_at hl 4 rfl) ?_
                        subst hAe
                        have e_S : sp_ct (off, nm, ng, now, F, R) x = (sm_I (fun i => if is_en (F 10 i) then 1 else 0) nm) := by simp only [sp_ct]; rw [if_neg e3, if_neg e4, if_neg e5, if_neg e6, if_neg e7, if_neg e8, if_pos e9]
                        exact W.iret (v := (sm_I (fun i => if is_en (F 10 i) then 1 else 0) nm)) hx hb hr (fun t ht hW => ⟨⟨_, (), rfl, e_S.symm, by rw [ht]; exact hP, hD⟩, hS.F ht⟩) hS.2.2 d_N_count_206
                      · by_cases e10 : x = 7
                        · refine sk_as e10 ?_
                          refine lv_tableIn (off := 73) (tgt := 207) hx hb d_N_count_134 (by decide) (by decide) rfl (by decide) ?_
                          refine lv_iload hx hb d_N_count_207 (lv_at hl 5 rfl) ?_
                          subst hAe
                          have e_S : sp_ct (off, nm, ng, now, F, R) x = (sm_I (fun j => if R (7 * j + 6) = 0 then 1 else 0) ng) := by simp only [sp_ct]; rw [if_neg e3, if_neg e4, if_neg e5, if_neg e6, if_neg e7, if_neg e8, if_neg e9, if_pos e10]
                          exact W.iret (v := (sm_I (fun j => if R (7 * j + 6) = 0 then 1 else 0) ng)) hx hb hr (fun t ht hW => ⟨⟨_, (), rfl, e_S.symm, by rw [ht]; exact hP, hD⟩, hS.F ht⟩) hS.2.2 d_N_count_209
                        · refine lv_tableOut (tgt := 210) hx hb d_N_count_134 (by have := ne_I (n := 0) e3; have := ne_I (n := 1) e4; have := ne_I (n := 2) e5; have := ne_I (n := 3) e6; have := ne_I (n := 4) e7; have := ne_I (n := 5) e8; have := ne_I (n := 6) e9; have := ne_I (n := 7) e10; omega) (by decide) ?_
                          refine lv_iconst (v := (-1)) hx hb d_N_count_210 (by decide) ?_
                          subst hAe
                          have e_S : sp_ct (off, nm, ng, now, F, R) x = (-1) := by simp only [sp_ct]; rw [if_neg e3, if_neg e4, if_neg e5, if_neg e6, if_neg e7, if_neg e8, if_neg e9, if_neg e10]
                          exact W.iret (v := (-1)) hx hb hr (fun t ht hW => ⟨⟨_, (), rfl, e_S.symm, by rw [ht]; exact hP, hD⟩, hS.F ht⟩) hS.2.2 d_N_count_211
        · have hq9 : q < ng := lp_lt (n := ng) c2 (by omega) (i_nI (by omega))
          refine lv_iload hx hb d_N_count_101 (lv_at hl 5 rfl) ?_
          refine lv_aload_n hx hb d_N_count_103 rfl (lv_at hl 0 rfl) ?_
          refine va_get (D := D) (C := R_N) (T := F_N) (N := 25) hx hb htw uw_N hown hK hP 0 rfl rfl 24 (by decide) (htw _ k_N_67) (fun _ h9 => h9) rfl d_N_count_104 ?_
          refine lv_bipush (v := 7) hx hb d_N_count_107 (by decide) ?_
          refine lv_iload hx hb d_N_count_109 (lv_at hl 6 rfl) ?_
          refine lv_imul hx hb d_N_count_111 ?_
          refine sk_as (y := nI (7 * q)) (pk_mul 7 q) ?_
          refine lv_bipush (v := 6) hx hb d_N_count_112 (by decide) ?_
          refine lv_iadd hx hb d_N_count_114 ?_
          refine sk_as (y := nI (7 * q + 6)) (nI_add (7 * q) 6) ?_
          refine ar_ld hx hb hK hP 1 2 rfl rfl (show 7 * q + 6 < 2800 by omega) (by decide) d_N_count_115 ?_
          refine lv_if_ne (tgt := 123) hx hb d_N_count_116 (by decide) (fun c11 => ?_) (fun c11 => ?_)
          · refine lv_iconst (v := 0) hx hb d_N_count_123 (by decide) ?_
            refine lv_iadd hx hb d_N_count_124 ?_
            refine lv_istore (lv' := [(5, .int ((sm_I (fun j => if R (7 * j + 6) = 0 then 1 else 0) q) + 0)), (0, .ref r), (1, .int x), (2, .int (sm_I (fun i => if is_en (F 10 i) then 0 else F 5 i) nm)), (3, .int (sm_I (fun i => F 12 i) nm)), (4, .int (sm_I (fun i => if is_en (F 10 i) then 1 else 0) nm)), (6, .int (nI q))]) hx hb d_N_count_125 hl (by decide) rfl (fun ls hl => ?_)
            refine lv_iinc (v := nI (q + 1)) (lv' := [(6, .int (nI (q + 1))), (5, .int ((sm_I (fun j => if R (7 * j + 6) = 0 then 1 else 0) q) + 0)), (0, .ref r), (1, .int x), (2, .int (sm_I (fun i => if is_en (F 10 i) then 0 else F 5 i) nm)), (3, .int (sm_I (fun i => F 12 i) nm)), (4, .int (sm_I (fun i => if is_en (F 10 i) then 1 else 0) nm))]) hx hb d_N_count_127 hl (k := 6) rfl (nI_1 q) (by decide) rfl (fun ls hl => ?_)
            refine lv_goto (tgt := 92) hx hb d_N_count_130 (by decide) ?_
            have e7 : sm_I (fun j => if R (7 * j + 6) = 0 then 1 else 0) q + 0 = sm_I (fun j => if R (7 * j + 6) = 0 then 1 else 0) (q + 1) := by simp only [sm_I]; rw [if_neg c11]
            rw [e7] at hl
            exact ih8 ls (q + 1) (by omega) (lv_sub hl [2, 3, 4, 5, 6, 1, 0] rfl) (by omega)
          · refine lv_iconst (v := 1) hx hb d_N_count_119 (by decide) ?_
            refine lv_goto (tgt := 124) hx hb d_N_count_120 (by decide) ?_
            refine lv_iadd hx hb d_N_count_124 ?_
            refine lv_istore (lv' := [(5, .int ((sm_I (fun j => if R (7 * j + 6) = 0 then 1 else 0) q) + 1)), (0, .ref r), (1, .int x), (2, .int (sm_I (fun i => if is_en (F 10 i) then 0 else F 5 i) nm)), (3, .int (sm_I (fun i => F 12 i) nm)), (4, .int (sm_I (fun i => if is_en (F 10 i) then 1 else 0) nm)), (6, .int (nI q))]) hx hb d_N_count_125 hl (by decide) rfl (fun ls hl => ?_)
            refine lv_iinc (v := nI (q + 1)) (lv' := [(6, .int (nI (q + 1))), (5, .int ((sm_I (fun j => if R (7 * j + 6) = 0 then 1 else 0) q) + 1)), (0, .ref r), (1, .int x), (2, .int (sm_I (fun i => if is_en (F 10 i) then 0 else F 5 i) nm)), (3, .int (sm_I (fun i => F 12 i) nm)), (4, .int (sm_I (fun i => if is_en (F 10 i) then 1 else 0) nm))]) hx hb d_N_count_127 hl (k := 6) rfl (nI_1 q) (by decide) rfl (fun ls hl => ?_)
            refine lv_goto (tgt := 92) hx hb d_N_count_130 (by decide) ?_
            have e7 : sm_I (fun j => if R (7 * j + 6) = 0 then 1 else 0) q + 1 = sm_I (fun j => if R (7 * j + 6) = 0 then 1 else 0) (q + 1) := by simp only [sm_I]; rw [if_pos c11]
            rw [e7] at hl
            exact ih8 ls (q + 1) (by omega) (lv_sub hl [2, 3, 4, 5, 6, 1, 0] rfl) (by omega)
    · have hk9 : k < nm := lp_lt (n := nm) c1 (by omega) (i_nI (by omega))
      have hMk := hM k hk9
      have hk20 : k < 20 := by omega
      refine lv_iload_n hx hb d_N_count_24 rfl (lv_at hl 2 rfl) ?_
      refine lv_aload_n hx hb d_N_count_25 rfl (lv_at hl 0 rfl) ?_
      refine va_get (D := D) (C := R_N) (T := F_N) (N := 25) hx hb htw uw_N hown hK hP 0 rfl rfl 15 (by decide) (htw _ k_N_40) (fun _ h9 => h9) rfl d_N_count_26 ?_
      refine lv_iload hx hb d_N_count_29 (lv_at hl 5 rfl) ?_
      refine ar_ld hx hb hK hP 12 2 rfl rfl hk20 (by decide) d_N_count_31 ?_
      refine lv_iconst (v := 5) hx hb d_N_count_32 (by decide) ?_
      refine lv_icmp_ge (tgt := 46) hx hb d_N_count_33 (by decide) (fun c12 => ?_) (fun c12 => ?_)
      · refine lv_iconst (v := 0) hx hb d_N_count_46 (by decide) ?_
        refine lv_iadd hx hb d_N_count_47 ?_
        refine lv_istore_n (lv' := [(2, .int ((sm_I (fun i => if is_en (F 10 i) then 0 else F 5 i) k) + 0)), (0, .ref r), (1, .int x), (3, .int (sm_I (fun i => F 12 i) k)), (4, .int (sm_I (fun i => if is_en (F 10 i) then 1 else 0) k)), (5, .int (nI k))]) hx hb d_N_count_48 rfl hl (by decide) rfl (fun ls hl => ?_)
        refine lv_iload_n hx hb d_N_count_49 rfl (lv_at hl 3 rfl) ?_
        refine lv_aload_n hx hb d_N_count_50 rfl (lv_at hl 1 rfl) ?_
        refine va_get (D := D) (C := R_N) (T := F_N) (N := 25) hx hb htw uw_N hown hK hP 0 rfl rfl 17 (by decide) (htw _ k_N_46) (fun _ h9 => h9) rfl d_N_count_51 ?_
        refine lv_iload hx hb d_N_count_54 (lv_at hl 5 rfl) ?_
        refine ar_ld hx hb hK hP 14 2 rfl rfl hk20 (by decide) d_N_count_56 ?_
        refine lv_iadd hx hb d_N_count_57 ?_
        refine lv_istore_n (lv' := [(3, .int ((sm_I (fun i => F 12 i) k) + (F 12 k))), (2, .int ((sm_I (fun i => if is_en (F 10 i) then 0 else F 5 i) k) + 0)), (0, .ref r), (1, .int x), (4, .int (sm_I (fun i => if is_en (F 10 i) then 1 else 0) k)), (5, .int (nI k))]) hx hb d_N_count_58 rfl hl (by decide) rfl (fun ls hl => ?_)
        refine lv_iload hx hb d_N_count_59 (lv_at hl 4 rfl) ?_
        refine lv_aload_n hx hb d_N_count_61 rfl (lv_at hl 2 rfl) ?_
        refine va_get (D := D) (C := R_N) (T := F_N) (N := 25) hx hb htw uw_N hown hK hP 0 rfl rfl 15 (by decide) (htw _ k_N_40) (fun _ h9 => h9) rfl d_N_count_62 ?_
        refine lv_iload hx hb d_N_count_65 (lv_at hl 5 rfl) ?_
        refine ar_ld hx hb hK hP 12 2 rfl rfl hk20 (by decide) d_N_count_67 ?_
        refine lv_iconst (v := 5) hx hb d_N_count_68 (by decide) ?_
        refine lv_icmp_ge (tgt := 76) hx hb d_N_count_69 (by decide) (fun _ => ?_) (fun c13 => absurd c12 c13)
        refine lv_iconst (v := 1) hx hb d_N_count_76 (by decide) ?_
        refine lv_iadd hx hb d_N_count_77 ?_
        refine lv_istore (lv' := [(4, .int ((sm_I (fun i => if is_en (F 10 i) then 1 else 0) k) + 1)), (3, .int ((sm_I (fun i => F 12 i) k) + (F 12 k))), (2, .int ((sm_I (fun i => if is_en (F 10 i) then 0 else F 5 i) k) + 0)), (0, .ref r), (1, .int x), (5, .int (nI k))]) hx hb d_N_count_78 hl (by decide) rfl (fun ls hl => ?_)
        refine lv_iinc (v := nI (k + 1)) (lv' := [(5, .int (nI (k + 1))), (4, .int ((sm_I (fun i => if is_en (F 10 i) then 1 else 0) k) + 1)), (3, .int ((sm_I (fun i => F 12 i) k) + (F 12 k))), (2, .int ((sm_I (fun i => if is_en (F 10 i) then 0 else F 5 i) k) + 0)), (0, .ref r), (1, .int x)]) hx hb d_N_count_80 hl (k := 5) rfl (nI_1 k) (by decide) rfl (fun ls hl => ?_)
        refine lv_goto (tgt := 15) hx hb d_N_count_83 (by decide) ?_
        have e4 : sm_I (fun i => if is_en (F 10 i) then 0 else F 5 i) k + 0 = sm_I (fun i => if is_en (F 10 i) then 0 else F 5 i) (k + 1) := by simp only [sm_I]; rw [if_pos ((n_e5 hMk.2.2.2.2.2.2.2.2.2.1).mp c12)]
        have e5 : sm_I (fun i => F 12 i) k + F 12 k = sm_I (fun i => F 12 i) (k + 1) := rfl
        have e6 : sm_I (fun i => if is_en (F 10 i) then 1 else 0) k + 1 = sm_I (fun i => if is_en (F 10 i) then 1 else 0) (k + 1) := by simp only [sm_I]; rw [if_pos ((n_e5 hMk.2.2.2.2.2.2.2.2.2.1).mp c12)]
        rw [e4, e5, e6] at hl
        exact ih ls (k + 1) (by omega) (lv_sub hl [4, 5, 3, 2, 1, 0] rfl) (by omega)
      · refine lv_aload_n hx hb d_N_count_36 rfl (lv_at hl 0 rfl) ?_
        refine va_get (D := D) (C := R_N) (T := F_N) (N := 25) hx hb htw uw_N hown hK hP 0 rfl rfl 10 (by decide) (htw _ k_N_25) (fun _ h9 => h9) rfl d_N_count_37 ?_
        refine lv_iload hx hb d_N_count_40 (lv_at hl 5 rfl) ?_
        refine ar_ld hx hb hK hP 7 2 rfl rfl hk20 (by decide) d_N_count_42 ?_
        refine lv_goto (tgt := 47) hx hb d_N_count_43 (by decide) ?_
        refine lv_iadd hx hb d_N_count_47 ?_
        refine lv_istore_n (lv' := [(2, .int ((sm_I (fun i => if is_en (F 10 i) then 0 else F 5 i) k) + (F 5 k))), (0, .ref r), (1, .int x), (3, .int (sm_I (fun i => F 12 i) k)), (4, .int (sm_I (fun i => if is_en (F 10 i) then 1 else 0) k)), (5, .int (nI k))]) hx hb d_N_count_48 rfl hl (by decide) rfl (fun ls hl => ?_)
        refine lv_iload_n hx hb d_N_count_49 rfl (lv_at hl 3 rfl) ?_
        refine lv_aload_n hx hb d_N_count_50 rfl (lv_at hl 1 rfl) ?_
        refine va_get (D := D) (C := R_N) (T := F_N) (N := 25) hx hb htw uw_N hown hK hP 0 rfl rfl 17 (by decide) (htw _ k_N_46) (fun _ h9 => h9) rfl d_N_count_51 ?_
        refine lv_iload hx hb d_N_count_54 (lv_at hl 5 rfl) ?_
        refine ar_ld hx hb hK hP 14 2 rfl rfl hk20 (by decide) d_N_count_56 ?_
        refine lv_iadd hx hb d_N_count_57 ?_
        refine lv_istore_n (lv' := [(3, .int ((sm_I (fun i => F 12 i) k) + (F 12 k))), (2, .int ((sm_I (fun i => if is_en (F 10 i) then 0 else F 5 i) k) + (F 5 k))), (0, .ref r), (1, .int x), (4, .int (sm_I (fun i => if is_en (F 10 i) then 1 else 0) k)), (5, .int (nI k))]) hx hb d_N_count_58 rfl hl (by decide) rfl (fun ls hl => ?_)
        refine lv_iload hx hb d_N_count_59 (lv_at hl 4 rfl) ?_
        refine lv_aload_n hx hb d_N_count_61 rfl (lv_at hl 2 rfl) ?_
        refine va_get (D := D) (C := R_N) (T := F_N) (N := 25) hx hb htw uw_N hown hK hP 0 rfl rfl 15 (by decide) (htw _ k_N_40) (fun _ h9 => h9) rfl d_N_count_62 ?_
        refine lv_iload hx hb d_N_count_65 (lv_at hl 5 rfl) ?_
        refine ar_ld hx hb hK hP 12 2 rfl rfl hk20 (by decide) d_N_count_67 ?_
        refine lv_iconst (v := 5) hx hb d_N_count_68 (by decide) ?_
        refine lv_icmp_ge (tgt := 76) hx hb d_N_count_69 (by decide) (fun c14 => absurd c14 c12) (fun _ => ?_)
        refine lv_iconst (v := 0) hx hb d_N_count_72 (by decide) ?_
        refine lv_goto (tgt := 77) hx hb d_N_count_73 (by decide) ?_
        refine lv_iadd hx hb d_N_count_77 ?_
        refine lv_istore (lv' := [(4, .int ((sm_I (fun i => if is_en (F 10 i) then 1 else 0) k) + 0)), (3, .int ((sm_I (fun i => F 12 i) k) + (F 12 k))), (2, .int ((sm_I (fun i => if is_en (F 10 i) then 0 else F 5 i) k) + (F 5 k))), (0, .ref r), (1, .int x), (5, .int (nI k))]) hx hb d_N_count_78 hl (by decide) rfl (fun ls hl => ?_)
        refine lv_iinc (v := nI (k + 1)) (lv' := [(5, .int (nI (k + 1))), (4, .int ((sm_I (fun i => if is_en (F 10 i) then 1 else 0) k) + 0)), (3, .int ((sm_I (fun i => F 12 i) k) + (F 12 k))), (2, .int ((sm_I (fun i => if is_en (F 10 i) then 0 else F 5 i) k) + (F 5 k))), (0, .ref r), (1, .int x)]) hx hb d_N_count_80 hl (k := 5) rfl (nI_1 k) (by decide) rfl (fun ls hl => ?_)
        refine lv_goto (tgt := 15) hx hb d_N_count_83 (by decide) ?_
        have e4 : sm_I (fun i => if is_en (F 10 i) then 0 else F 5 i) k + F 5 k = sm_I (fun i => if is_en (F 10 i) then 0 else F 5 i) (k + 1) := by simp only [sm_I]; rw [if_neg (fun q => c12 ((n_e5 hMk.2.2.2.2.2.2.2.2.2.1).mpr q))]
        have e5 : sm_I (fun i => F 12 i) k + F 12 k = sm_I (fun i => F 12 i) (k + 1) := rfl
        have e6 : sm_I (fun i => if is_en (F 10 i) then 1 else 0) k + 0 = sm_I (fun i => if is_en (F 10 i) then 1 else 0) (k + 1) := by simp only [sm_I]; rw [if_neg (fun q => c12 ((n_e5 hMk.2.2.2.2.2.2.2.2.2.1).mpr q))]
        rw [e4, e5, e6] at hl
        exact ih ls (k + 1) (by omega) (lv_sub hl [4, 5, 3, 2, 1, 0] rfl) (by omega)
