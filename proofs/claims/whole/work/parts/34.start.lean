-- THE START: what the tables and the Statement give
theorem nx_in : ∀ w ∈ nx_L, w ∈ lw_tbl ∧ w.onTables = true := by decide +kernel
theorem sr_in : ∀ q ∈ sr_L, Cond.stringRef R_T q.1 q.2 ∈ lw_tbl := by decide +kernel
theorem sr_ex : ∀ q ∈ sr_L, Cond.exactly (.string R_T q.1) "java/lang/String" ∈ flatC (Jvm.Cond.and given_1 narrow_1) := by decide +kernel
theorem nn_in : nb_w ∈ lw_tbl ∧ nd_w ∈ lw_tbl := by decide +kernel
theorem ao_in : Cond.arrayOver (.object "TransitSteps$Movement") ∈ lw_tbl ∧ Cond.arrayOver (.object "TransitSteps$Message") ∈ lw_tbl := by decide +kernel
theorem st_in : Cond.laysStatic Bundle.tN "UNASSIGNED_STACK" Bundle.steD ∈ lw_tbl ∧ Cond.laysStatic Bundle.tN "SUPPRESSED_SENTINEL" Bundle.listD ∈ lw_tbl ∧ Cond.initialized Bundle.tN ∈ lw_tbl ∧ Cond.laysStatic "TransitSteps" "DUE_BEHIND_LIMIT" "[I" ∈ lw_tbl ∧ Cond.initialized "TransitSteps" ∈ lw_tbl := by decide +kernel
theorem st_nr : Cond.isRef (.static Bundle.tN "UNASSIGNED_STACK" Bundle.steD) ∈ flatC (Jvm.Cond.and given_1 narrow_1) ∧ Cond.isRef (.static Bundle.tN "SUPPRESSED_SENTINEL" Bundle.listD) ∈ flatC (Jvm.Cond.and given_1 narrow_1) ∧ Cond.arrayOf (.static "TransitSteps" "DUE_BEHIND_LIMIT" "[I") .int ∈ flatC (Jvm.Cond.and given_1 narrow_1) ∧ Cond.eq (.length (.static "TransitSteps" "DUE_BEHIND_LIMIT" "[I")) (.int 4) ∈ flatC (Jvm.Cond.and given_1 narrow_1) := by decide +kernel
theorem st_el : ∀ j, j < 4 → Cond.eq (.elem (.static "TransitSteps" "DUE_BEHIND_LIMIT" "[I") (.int (Int32.ofNat j))) (.int (du_V j)) ∈ flatC (Jvm.Cond.and given_1 narrow_1) := by decide +kernel
theorem nc_in : Cond.not (.castable "java/lang/IllegalStateException" "java/lang/IllegalArgumentException") ∈ flatC (Jvm.Cond.and given_1 narrow_1) := by decide +kernel
section ST
variable {s : State} {av : Array Value}
theorem st_M (C : String) (h : (Cond.arrayOver (.object C)).before av s = true) : ∃ cA : ClassId, ArrOfT s cA (.object C) ∧ va_RA s cA (.object C) := by
  obtain ⟨comp, cA, kA, h1, h2, h3, h4, h5⟩ := Cond.arrayOver_spec h
  exact ⟨cA, fun N z => ⟨(fun k h => by cases h), kA, h3, comp, h4⟩, kA, comp, h3, h4, h1, h5⟩
theorem st_I (h : (Cond.arrayClass .int).before av s = true) : ∃ cA : ClassId, ArrOfT s cA .int ∧ va_RA s cA .int := by
  obtain ⟨cA, kA, comp, h1, h2, h3⟩ := Cond.arrayClass_spec h
  exact ⟨cA, fun N z => ⟨(fun k h => by cases h), kA, h2, comp, h3⟩, h1⟩
theorem st_J (h : (Cond.arrayClass .long).before av s = true) : ∃ cA : ClassId, ArrOfT s cA .long ∧ va_RA s cA .long := by
  obtain ⟨cA, kA, comp, h1, h2, h3⟩ := Cond.arrayClass_spec h
  exact ⟨cA, fun N z => ⟨(fun k h => by cases h), kA, h2, comp, h3⟩, h1⟩
theorem st_Y (hts : ∀ w ∈ lw_tbl, w.before av s = true) (hgv : (Jvm.Cond.and given_1 narrow_1).before av s = true) : ∃ (D : va_G) (cM cG cI cJ : ClassId), yt_P D cM cG cI cJ s := by
  have htw : ∀ w ∈ tw_L, w.before av s = true := fun w hw => hts w (List.mem_filter.mp hw).1
  have hs := flat_of_before _ hgv
  obtain ⟨c0, i0, k0⟩ := u_known (C := R_T) (T := F_T) (N := 6) (n := 6) htw uw_T (htw _ kb_T)
  obtain ⟨c1, i1, k1⟩ := u_known (C := R_V) (T := F_V) (N := 19) (n := 19) htw uw_V (htw _ kb_V)
  obtain ⟨c2, i2, k2⟩ := u_known (C := R_G) (T := F_G) (N := 7) (n := 7) htw uw_G (htw _ kb_G)
  obtain ⟨c3, i3, k3⟩ := u_known (C := R_N) (T := F_N) (N := 25) (n := 25) htw uw_N (htw _ kb_N)
  obtain ⟨cM, hM⟩ := st_M _ (hts _ ao_in.1)
  obtain ⟨cG, hG⟩ := st_M _ (hts _ ao_in.2)
  obtain ⟨cI, hI⟩ := st_I (htw _ ka_int)
  obtain ⟨cJ, hJ⟩ := st_J (htw _ ka_long)
  refine ⟨(fun k => if k = 0 then c0 else if k = 1 then c1 else if k = 2 then c2 else c3, fun k => if k = 0 then i0 else if k = 1 then i1 else if k = 2 then i2 else i3), cM, cG, cI, cJ, ⟨?_, ?_⟩, va_Nw.of rfl (hts _ nn_in.1), va_Nw.of rfl (hts _ nn_in.2), ?_, va_AO.of (hts _ ao_in.1), va_AO.of (hts _ ao_in.2), fun w hw => va_Nw.of (nx_in w hw).2 (hts _ (nx_in w hw).1), va_Nc.of (hs _ nc_in)⟩
  · intro k q hq
    match k, hq with
    | 0, hq => cases hq; exact k0
    | 1, hq => cases hq; exact k1
    | 2, hq => cases hq; exact k2
    | 3, hq => cases hq; exact k3
    | k + 4, hq => simp [cl_L] at hq
  · intro k q hq
    match k, hq with
    | 0, hq => cases hq; exact hM
    | 1, hq => cases hq; exact hG
    | 2, hq => cases hq; exact hI
    | 3, hq => cases hq; exact hJ
    | k + 4, hq => simp at hq
  · intro q hq
    obtain ⟨a, c, cell, k, h1, -⟩ := Cond.exactly_spec (hs _ (sr_ex q hq))
    exact ⟨a, vk_R.of (hts _ (sr_in q hq)) h1⟩
theorem st_X (hts : ∀ w ∈ lw_tbl, w.before av s = true) (hgv : (Jvm.Cond.and given_1 narrow_1).before av s = true) {A : Nat → Prop} (hA : ∀ a : Nat, a < s.heap.size → ¬ A a) : sx_P A s s.heap ∧ sa_P A s s.heap := by
  have hs := flat_of_before _ hgv
  refine ⟨⟨vx_Zqof (hts _ st_in.1) (hts _ st_in.2.2.1) (hs _ st_nr.1) hA, vx_Zqof (hts _ st_in.2.1) (hts _ st_in.2.2.1) (hs _ st_nr.2.1) hA⟩, ?_⟩
  obtain ⟨t, h1, h2⟩ := va_Tof (N := 4) (f := fun j => .int (du_V j)) (by decide) (hs _ st_nr.2.2.1) (va_eqt (hs _ st_nr.2.2.2)) (fun j hj => va_eqt (hs _ (st_el j hj))) hA
  exact ⟨t, va_Zof (hts _ st_in.2.2.2.1) (hts _ st_in.2.2.2.2) h1 hA, h2⟩
end ST
/-- the script's first number, or 0 -/
def cz_I (L : Nat) (xs : Nat → Int32) : Int32 := if 0 < L then xs 0 else 0
theorem va_X_X {b L : Nat} {xs : Nat → Int32} : is_X (va_X b L xs) := fun u U H hW h => va_X.moved hW.alike h
set_option maxHeartbeats 4000000 in
set_option maxRecDepth 100000 in
theorem t_L_cell (l : Launch) (D : va_G) (cM cG cI cJ : ClassId) (b L : Nat) (xs : Nat → Int32) (hL : L ≤ 3585) : Met l y_L_cell (Cond.code y_L_cell c_L_cell 2 (some .int) :: tw_L) ({ frames := 0, cells := 0, slots := 0, locals := 0 } : Room) (pu_P (va_X b L xs) (yt_P D cM cG cI cJ) [.ref b, .int 0]) (vp_Si (fun r => r = cz_I L xs)) 0 0 no_A := by
  refine Met.ofW (cc := c_L_cell) (maxL := 2) (ret := (some .int)) (by decide) rfl ?_
  intro p e s m args below meth c s₁ B hml hv
  obtain ⟨rfl, hX, hY⟩ := hv
  have hx := B.exec
  have hb := B.bytes
  have hr := B.returns
  have htw : ∀ w ∈ tw_L, w.before _ s = true := fun w hw => atoms_spec (ws := (Cond.code y_L_cell c_L_cell 2 (some .int) :: tw_L)) B.pre w (List.mem_cons_of_mem _ hw)
  have hown : s.vm.findClass R_L = some m.cls := findClass_of_methodNamed B.named
  have hlocks := B.notSynchronized
  have hC : CallFix p m c c_L_cell 2 s _ tw_L R_L := ⟨hx, hb, hml, hown, htw⟩
  have hK := hY.1
  have hl := lv_entry ([.ref b, .int 0]) (n := 2) (Nat.le_of_ble_eq_true rfl)
  rw [lg_entry_eq]
  generalize (lg_sl ([.ref b, .int 0]) ++ List.replicate (2 - (lg_sl ([.ref b, .int 0])).length) Slot.unset).toArray = ls at hl ⊢
  have hl : lv_has ls 2 [(0, .ref b), (1, .int 0)] := hl
  have hbl : b < s.heap.size := by obtain ⟨scr, h1, -⟩ := id hX; exact (Array.getElem?_eq_some_iff.mp h1).1
  have hS : va_S no_A s.heap s.heap [] := va_S.rf
  refine lv_iload_n hx hb d_L_cell_0 rfl (lv_at hl 1 rfl) ?_
  refine lv_aload_n hx hb d_L_cell_1 rfl (lv_at hl 0 rfl) ?_
  refine va_slen hx hb hX hbl (fun z => z) hS d_L_cell_2 ?_
  refine lv_icmp_ge (tgt := 12) hx hb d_L_cell_3 (by decide) (fun c1 => ?_) (fun c1 => ?_)
  · refine lv_iconst (v := 0) hx hb d_L_cell_12 (by decide) ?_
    exact W.iret (v := 0) hx hb hr (fun t ht hW => ⟨_, rfl, (by unfold cz_I; rw [if_neg (by have := lp_ge (k := 0) (n := L) (N := Int32.ofNat L) c1 (by decide) (i_nI (by omega)); omega)]), ht⟩) (fun q h => nomatch h) d_L_cell_13
  · refine lv_aload_n hx hb d_L_cell_6 rfl (lv_at hl 0 rfl) ?_
    refine lv_iload_n hx hb d_L_cell_7 rfl (lv_at hl 1 rfl) ?_
    have hL0 : 0 < L := by have := lp_lt (k := 0) (n := L) (N := Int32.ofNat L) c1 (by decide) (i_nI (by omega)); exact this
    refine va_sld hx hb hX hbl (fun z => z) hS (vp_in_nI (n := 0) hL0 (by omega)) d_L_cell_8 ?_
    refine lv_goto (tgt := 13) hx hb d_L_cell_9 (by decide) ?_
    exact W.iret (v := (xs (0 : Int32).toNatClampNeg)) hx hb hr (fun t ht hW => ⟨_, rfl, (by unfold cz_I; rw [if_pos hL0]; rfl), ht⟩) (fun q h => nomatch h) d_L_cell_13
