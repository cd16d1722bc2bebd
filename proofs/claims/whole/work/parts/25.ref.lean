-- THE REFERENCE: arrays of ints by natural places
section AR
variable {p : Program} {l : Launch} {e : Env} {R : Room} {s : State} {m : MethodId} {args : Array Value} {below : List Frame} {meth : Method} {c : Code} {H H0 : Heap} {locs : List Loc} {cells slots : Nat} {Q : State → Prop}
variable {cc : ByteArray} {pc : Nat} {ls : Array Slot} {rest : List Value} {D : va_G} {tys : List (ClassId × FieldType)} {ws : va_W} {a : Nat} {A : Nat → Prop}
theorem ar_ld (hexec : p.tables.exec = Jvm.exec) (hb : c.code = cc) (hK : va_K D cl_L tys s) (hP : va_P D cl_L ws H) (q0 t0 : Nat) {cA : ClassId} {n j : Nat} {f : Nat → Int32} (ha : ws[q0]? = some (a, .inl (cA, n, .inl f))) (ht : tys[t0]? = some (cA, .int)) (hj : j < n) (hn : n < 2 ^ 31) (hdg : decode cc pc = .ok (.iaload, 1))
    (kk : W p l e R s m args below meth c H locs cells slots Q (F0 m (pc + 1) ls (.int (f j) :: rest))) : W p l e R s m args below meth c H locs cells slots Q (F0 m pc ls (.int (nI j) :: .ref a :: rest)) :=
  va_iald hexec hb hK hP q0 t0 ha ht (vp_in_nI hj hn) hdg (by rw [nI_clamp (Nat.lt_trans hj hn)]; exact kk)
theorem ar_st (hexec : p.tables.exec = Jvm.exec) (hb : c.code = cc) (hK : va_K D cl_L tys s) (hP : va_P D cl_L ws H) (hD : va_D A ws) (hS : va_S A H0 H locs) (q0 t0 : Nat) {cA : ClassId} {n j : Nat} {f : Nat → Int32} (ha : ws[q0]? = some (a, .inl (cA, n, .inl f))) (ht : tys[t0]? = some (cA, .int)) {x : Int32} (hj : j < n) (hn : n < 2 ^ 31) (hdg : decode cc pc = .ok (.iastore, 1))
    (kk : ∀ (H1 : Heap) (locs1 : List Loc), va_P D cl_L (ws.set q0 (a, .inl (cA, n, .inl (upd f j x)))) H1 → va_D A (ws.set q0 (a, .inl (cA, n, .inl (upd f j x)))) → va_S A H0 H1 locs1 → W p l e R s m args below meth c H1 locs1 cells slots Q (F0 m (pc + 1) ls rest)) : W p l e R s m args below meth c H locs cells slots Q (F0 m pc ls (.int x :: .int (nI j) :: .ref a :: rest)) :=
  va_iast hexec hb hK hP hD hS q0 t0 ha ht (vp_in_nI hj hn) hdg (fun H1 l1 h1 h2 h3 => kk H1 l1 (by rw [nI_clamp (Nat.lt_trans hj hn)] at h1; exact h1) (by rw [nI_clamp (Nat.lt_trans hj hn)] at h2; exact h2) h3)
end AR
def sr_P (S : Nat → Int32) (σ : st_T) : Prop := match σ with
  | (_, nm, _, _, F, _) => ∀ i, i < nm → ¬ F 6 i = -1 → S i = F 7 i
theorem n_1 {x : Int32} (h : -1 ≤ x.toInt) : x < 0 ↔ x = -1 := by
  have e0 : (0 : Int32).toInt = 0 := rfl
  have e1 : (-1 : Int32).toInt = -1 := rfl
  rw [i_lt, i_eq, e0, e1]
  omega
theorem n_en {x : Int32} (h : 1 ≤ x.toInt ∧ x.toInt ≤ 6) : x ≤ 4 ↔ ¬ is_en x := by
  have e4 : (4 : Int32).toInt = 4 := rfl
  have e5 : (5 : Int32).toInt = 5 := rfl
  have e6 : (6 : Int32).toInt = 6 := rfl
  simp only [is_en, i_le, i_eq, e4, e5, e6]
  omega
theorem n_e5 {x : Int32} (h : 1 ≤ x.toInt ∧ x.toInt ≤ 6) : 5 ≤ x ↔ is_en x := by
  have e5 : (5 : Int32).toInt = 5 := rfl
  have e6 : (6 : Int32).toInt = 6 := rfl
  simp only [is_en, i_le, i_eq, e5, e6]
  omega
set_option maxHeartbeats 4000000 in
set_option maxRecDepth 100000 in
theorem t_N_thrown (l : Launch) (D : va_G) (cM cG cI cJ : ClassId) (r rr : Nat) (ra : Nat → Nat) (th : Int32) (Sr : Nat → Int32) (off : Int32) (nm ng : Nat) (now : Int32) (F : Nat → Nat → Int32) (R : Nat → Int32) : Met l y_N_thrown (Cond.code y_N_thrown c_N_thrown 1 (some .int) :: tw_L) ({ frames := 0, cells := 0, slots := 0, locals := 0 } : Room) (pu_P (fun _ => va_P D cl_L (ws_N cI r rr ra th Sr (off, nm, ng, now, F, R))) (yt_P D cM cG cI cJ) [.ref r]) (vp_Si (fun r => r = th)) 0 0 no_A := by
  refine Met.ofW (cc := c_N_thrown) (maxL := 1) (ret := (some .int)) (by decide) rfl ?_
  intro p e s m args below meth c s₁ B hml hv
  obtain ⟨rfl, hX, hY⟩ := hv
  have hx := B.exec
  have hb := B.bytes
  have hr := B.returns
  have htw : ∀ w ∈ tw_L, w.before _ s = true := fun w hw => atoms_spec (ws := (Cond.code y_N_thrown c_N_thrown 1 (some .int) :: tw_L)) B.pre w (List.mem_cons_of_mem _ hw)
  have hown : s.vm.findClass R_N = some m.cls := findClass_of_methodNamed B.named
  have hlocks := B.notSynchronized
  have hC : CallFix p m c c_N_thrown 1 s _ tw_L R_N := ⟨hx, hb, hml, hown, htw⟩
  have hK := hY.1
  have hl := lv_entry ([.ref r]) (n := 1) (Nat.le_of_ble_eq_true rfl)
  rw [lg_entry_eq]
  generalize (lg_sl ([.ref r]) ++ List.replicate (1 - (lg_sl ([.ref r])).length) Slot.unset).toArray = ls at hl ⊢
  have hl : lv_has ls 1 [(0, .ref r)] := hl
  have hP := hX
  refine lv_aload_n hx hb d_N_thrown_0 rfl (lv_at hl 0 rfl) ?_
  refine va_get (D := D) (C := R_N) (T := F_N) (N := 25) hx hb htw uw_N hown hK hP 0 rfl rfl 0 (by decide) (htw _ k_N_74) (fun _ h9 => h9) rfl d_N_thrown_1 ?_
  exact W.iret (v := th) hx hb hr (fun t ht hW => ⟨_, rfl, rfl, ht⟩) (fun q h => nomatch h) d_N_thrown_4
set_option maxHeartbeats 4000000 in
set_option maxRecDepth 100000 in
theorem t_N_isOffice (l : Launch) (D : va_G) (cM cG cI cJ : ClassId) (r rr : Nat) (ra : Nat → Nat) (th : Int32) (Sr : Nat → Int32) (off : Int32) (nm ng : Nat) (now : Int32) (F : Nat → Nat → Int32) (R : Nat → Int32) (x : Int32) : Met l y_N_isOffice (Cond.code y_N_isOffice c_N_isOffice 2 (some .boolean) :: tw_L) ({ frames := 0, cells := 0, slots := 0, locals := 0 } : Room) (pu_P (fun _ => va_P D cl_L (ws_N cI r rr ra th Sr (off, nm, ng, now, F, R))) (yt_P D cM cG cI cJ) [.ref r, .int x]) (vp_Si (fun r => (r = 1 ∧ is_of off x) ∨ (r = 0 ∧ ¬ is_of off x))) 0 0 no_A := by
  refine Met.ofW (cc := c_N_isOffice) (maxL := 2) (ret := (some .boolean)) (by decide) rfl ?_
  intro p e s m args below meth c s₁ B hml hv
  obtain ⟨rfl, hX, hY⟩ := hv
  have hx := B.exec
  have hb := B.bytes
  have hr := B.returns
  have htw : ∀ w ∈ tw_L, w.before _ s = true := fun w hw => atoms_spec (ws := (Cond.code y_N_isOffice c_N_isOffice 2 (some .boolean) :: tw_L)) B.pre w (List.mem_cons_of_mem _ hw)
  have hown : s.vm.findClass R_N = some m.cls := findClass_of_methodNamed B.named
  have hlocks := B.notSynchronized
  have hC : CallFix p m c c_N_isOffice 2 s _ tw_L R_N := ⟨hx, hb, hml, hown, htw⟩
  have hK := hY.1
  have hl := lv_entry ([.ref r, .int x]) (n := 2) (Nat.le_of_ble_eq_true rfl)
  rw [lg_entry_eq]
  generalize (lg_sl ([.ref r, .int x]) ++ List.replicate (2 - (lg_sl ([.ref r, .int x])).length) Slot.unset).toArray = ls at hl ⊢
  have hl : lv_has ls 2 [(0, .ref r), (1, .int x)] := hl
  have hP := hX
  refine lv_iload_n hx hb d_N_isOffice_0 rfl (lv_at hl 1 rfl) ?_
  refine lv_if_lt (tgt := 16) hx hb d_N_isOffice_1 (by decide) (fun c1 => ?_) (fun c1 => ?_)
  · refine lv_iconst (v := 0) hx hb d_N_isOffice_16 (by decide) ?_
    exact W.zret (v := 0) hx hb hr (by decide) (fun t ht hW => ⟨_, rfl, Or.inr ⟨rfl, fun q => q.1 c1⟩, ht⟩) (fun q h => nomatch h) d_N_isOffice_17
  · refine lv_iload_n hx hb d_N_isOffice_4 rfl (lv_at hl 1 rfl) ?_
    refine lv_aload_n hx hb d_N_isOffice_5 rfl (lv_at hl 0 rfl) ?_
    refine va_get (D := D) (C := R_N) (T := F_N) (N := 25) hx hb htw uw_N hown hK hP 0 rfl rfl 1 (by decide) (htw _ k_N_70) (fun _ h9 => h9) rfl d_N_isOffice_6 ?_
    refine lv_icmp_ge (tgt := 16) hx hb d_N_isOffice_9 (by decide) (fun c2 => ?_) (fun c2 => ?_)
    · refine lv_iconst (v := 0) hx hb d_N_isOffice_16 (by decide) ?_
      exact W.zret (v := 0) hx hb hr (by decide) (fun t ht hW => ⟨_, rfl, Or.inr ⟨rfl, fun q => absurd q.2 (Int32.not_lt.mpr c2)⟩, ht⟩) (fun q h => nomatch h) d_N_isOffice_17
    · refine lv_iconst (v := 1) hx hb d_N_isOffice_12 (by decide) ?_
      refine lv_goto (tgt := 17) hx hb d_N_isOffice_13 (by decide) ?_
      exact W.zret (v := 1) hx hb hr (by decide) (fun t ht hW => ⟨_, rfl, Or.inl ⟨rfl, c1, Int32.not_le.mp c2⟩, ht⟩) (fun q h => nomatch h) d_N_isOffice_17
set_option maxHeartbeats 4000000 in
set_option maxRecDepth 100000 in
theorem t_N_isMovement (l : Launch) (D : va_G) (cM cG cI cJ : ClassId) (r rr : Nat) (ra : Nat → Nat) (th : Int32) (Sr : Nat → Int32) (off : Int32) (nm ng : Nat) (now : Int32) (F : Nat → Nat → Int32) (R : Nat → Int32) (x : Int32) : Met l y_N_isMovement (Cond.code y_N_isMovement c_N_isMovement 2 (some .boolean) :: tw_L) ({ frames := 0, cells := 0, slots := 0, locals := 0 } : Room) (pu_P (fun _ => va_P D cl_L (ws_N cI r rr ra th Sr (off, nm, ng, now, F, R))) (yt_P D cM cG cI cJ) [.ref r, .int x]) (vp_Si (fun r => (r = 1 ∧ is_ix nm x) ∨ (r = 0 ∧ ¬ is_ix nm x))) 0 0 no_A := by
  refine Met.ofW (cc := c_N_isMovement) (maxL := 2) (ret := (some .boolean)) (by decide) rfl ?_
  intro p e s m args below meth c s₁ B hml hv
  obtain ⟨rfl, hX, hY⟩ := hv
  have hx := B.exec
  have hb := B.bytes
  have hr := B.returns
  have htw : ∀ w ∈ tw_L, w.before _ s = true := fun w hw => atoms_spec (ws := (Cond.code y_N_isMovement c_N_isMovement 2 (some .boolean) :: tw_L)) B.pre w (List.mem_cons_of_mem _ hw)
  have hown : s.vm.findClass R_N = some m.cls := findClass_of_methodNamed B.named
  have hlocks := B.notSynchronized
  have hC : CallFix p m c c_N_isMovement 2 s _ tw_L R_N := ⟨hx, hb, hml, hown, htw⟩
  have hK := hY.1
  have hl := lv_entry ([.ref r, .int x]) (n := 2) (Nat.le_of_ble_eq_true rfl)
  rw [lg_entry_eq]
  generalize (lg_sl ([.ref r, .int x]) ++ List.replicate (2 - (lg_sl ([.ref r, .int x])).length) Slot.unset).toArray = ls at hl ⊢
  have hl : lv_has ls 2 [(0, .ref r), (1, .int x)] := hl
  have hP := hX
  refine lv_iload_n hx hb d_N_isMovement_0 rfl (lv_at hl 1 rfl) ?_
  refine lv_if_lt (tgt := 16) hx hb d_N_isMovement_1 (by decide) (fun c1 => ?_) (fun c1 => ?_)
  · refine lv_iconst (v := 0) hx hb d_N_isMovement_16 (by decide) ?_
    exact W.zret (v := 0) hx hb hr (by decide) (fun t ht hW => ⟨_, rfl, Or.inr ⟨rfl, fun q => q.1 c1⟩, ht⟩) (fun q h => nomatch h) d_N_isMovement_17
  · refine lv_iload_n hx hb d_N_isMovement_4 rfl (lv_at hl 1 rfl) ?_
    refine lv_aload_n hx hb d_N_isMovement_5 rfl (lv_at hl 0 rfl) ?_
    refine va_get (D := D) (C := R_N) (T := F_N) (N := 25) hx hb htw uw_N hown hK hP 0 rfl rfl 2 (by decide) (htw _ k_N_77) (fun _ h9 => h9) rfl d_N_isMovement_6 ?_
    refine lv_icmp_ge (tgt := 16) hx hb d_N_isMovement_9 (by decide) (fun c2 => ?_) (fun c2 => ?_)
    · refine lv_iconst (v := 0) hx hb d_N_isMovement_16 (by decide) ?_
      exact W.zret (v := 0) hx hb hr (by decide) (fun t ht hW => ⟨_, rfl, Or.inr ⟨rfl, fun q => absurd q.2 (Int32.not_lt.mpr c2)⟩, ht⟩) (fun q h => nomatch h) d_N_isMovement_17
    · refine lv_iconst (v := 1) hx hb d_N_isMovement_12 (by decide) ?_
      refine lv_goto (tgt := 17) hx hb d_N_isMovement_13 (by decide) ?_
      exact W.zret (v := 1) hx hb hr (by decide) (fun t ht hW => ⟨_, rfl, Or.inl ⟨rfl, c1, Int32.not_le.mp c2⟩, ht⟩) (fun q h => nomatch h) d_N_isMovement_17
set_option maxHeartbeats 4000000 in
set_option maxRecDepth 100000 in
theorem t_N_isWaiting (l : Launch) (D : va_G) (cM cG cI cJ : ClassId) (r rr : Nat) (ra : Nat → Nat) (th : Int32) (Sr : Nat → Int32) (off : Int32) (nm ng : Nat) (now : Int32) (F : Nat → Nat → Int32) (R : Nat → Int32) (i : Nat) (hi : i < 20) : Met l y_N_isWaiting (Cond.code y_N_isWaiting c_N_isWaiting 2 (some .boolean) :: tw_L) ({ frames := 0, cells := 0, slots := 0, locals := 0 } : Room) (pu_P (fun _ => va_P D cl_L (ws_N cI r rr ra th Sr (off, nm, ng, now, F, R))) (yt_P D cM cG cI cJ) [.ref r, .int (nI i)]) (vp_Si (fun r => (r = 1 ∧ is_aw (F 10 i)) ∨ (r = 0 ∧ ¬ is_aw (F 10 i)))) 0 0 no_A := by
  refine Met.ofW (cc := c_N_isWaiting) (maxL := 2) (ret := (some .boolean)) (by decide) rfl ?_
  intro p e s m args below meth c s₁ B hml hv
  obtain ⟨rfl, hX, hY⟩ := hv
  have hx := B.exec
  have hb := B.bytes
  have hr := B.returns
  have htw : ∀ w ∈ tw_L, w.before _ s = true := fun w hw => atoms_spec (ws := (Cond.code y_N_isWaiting c_N_isWaiting 2 (some .boolean) :: tw_L)) B.pre w (List.mem_cons_of_mem _ hw)
  have hown : s.vm.findClass R_N = some m.cls := findClass_of_methodNamed B.named
  have hlocks := B.notSynchronized
  have hC : CallFix p m c c_N_isWaiting 2 s _ tw_L R_N := ⟨hx, hb, hml, hown, htw⟩
  have hK := hY.1
  have hl := lv_entry ([.ref r, .int (nI i)]) (n := 2) (Nat.le_of_ble_eq_true rfl)
  rw [lg_entry_eq]
  generalize (lg_sl ([.ref r, .int (nI i)]) ++ List.replicate (2 - (lg_sl ([.ref r, .int (nI i)])).length) Slot.unset).toArray = ls at hl ⊢
  have hl : lv_has ls 2 [(0, .ref r), (1, .int (nI i))] := hl
  have hP := hX
  refine lv_aload_n hx hb d_N_isWaiting_0 rfl (lv_at hl 0 rfl) ?_
  refine va_get (D := D) (C := R_N) (T := F_N) (N := 25) hx hb htw uw_N hown hK hP 0 rfl rfl 15 (by decide) (htw _ k_N_40) (fun _ h9 => h9) rfl d_N_isWaiting_1 ?_
  refine lv_iload_n hx hb d_N_isWaiting_4 rfl (lv_at hl 1 rfl) ?_
  refine ar_ld hx hb hK hP 12 2 rfl rfl hi (by decide) d_N_isWaiting_5 ?_
  refine lv_iconst (v := 1) hx hb d_N_isWaiting_6 (by decide) ?_
  refine lv_icmp_eq (tgt := 20) hx hb d_N_isWaiting_7 (by decide) (fun c1 => ?_) (fun c1 => ?_)
  · refine lv_iconst (v := 1) hx hb d_N_isWaiting_20 (by decide) ?_
    refine lv_goto (tgt := 25) hx hb d_N_isWaiting_21 (by decide) ?_
    exact W.zret (v := 1) hx hb hr (by decide) (fun t ht hW => ⟨_, rfl, Or.inl ⟨rfl, Or.inl c1⟩, ht⟩) (fun q h => nomatch h) d_N_isWaiting_25
  · refine lv_aload_n hx hb d_N_isWaiting_10 rfl (lv_at hl 0 rfl) ?_
    refine va_get (D := D) (C := R_N) (T := F_N) (N := 25) hx hb htw uw_N hown hK hP 0 rfl rfl 15 (by decide) (htw _ k_N_40) (fun _ h9 => h9) rfl d_N_isWaiting_11 ?_
    refine lv_iload_n hx hb d_N_isWaiting_14 rfl (lv_at hl 1 rfl) ?_
    refine ar_ld hx hb hK hP 12 2 rfl rfl hi (by decide) d_N_isWaiting_15 ?_
    refine lv_iconst (v := 4) hx hb d_N_isWaiting_16 (by decide) ?_
    refine lv_icmp_ne (tgt := 24) hx hb d_N_isWaiting_17 (by decide) (fun c2 => ?_) (fun c2 => ?_)
    · refine lv_iconst (v := 0) hx hb d_N_isWaiting_24 (by decide) ?_
      exact W.zret (v := 0) hx hb hr (by decide) (fun t ht hW => ⟨_, rfl, Or.inr ⟨rfl, fun q => q.elim c1 c2⟩, ht⟩) (fun q h => nomatch h) d_N_isWaiting_25
    · refine lv_iconst (v := 1) hx hb d_N_isWaiting_20 (by decide) ?_
      refine lv_goto (tgt := 25) hx hb d_N_isWaiting_21 (by decide) ?_
      exact W.zret (v := 1) hx hb hr (by decide) (fun t ht hW => ⟨_, rfl, Or.inl ⟨rfl, Or.inr c2⟩, ht⟩) (fun q h => nomatch h) d_N_isWaiting_25
set_option maxHeartbeats 4000000 in
set_option maxRecDepth 100000 in
theorem t_N_send (l : Launch) (D : va_G) (cM cG cI cJ : ClassId) (r rr : Nat) (ra : Nat → Nat) (th : Int32) (Sr : Nat → Int32) (off : Int32) (nm ng : Nat) (now : Int32) (F : Nat → Nat → Int32) (R : Nat → Int32) (sz : Nat) (k9 : Int32) (m9 : Int32) (f9 : Int32) (t9 : Int32) (v9 : Int32) (w9 : Int32) (hg : ng < 400) : Met l y_N_send (Cond.code y_N_send c_N_send 8 none :: tw_L) ({ frames := 0, cells := 0, slots := 0, locals := 0 } : Room) (mu_P D (ws_N cI r rr ra th Sr (off, nm, ng, now, F, R)) sz (fun _ _ => True) (yt_P D cM cG cI cJ) [.ref r, .int k9, .int m9, .int f9, .int t9, .int v9, .int w9]) (va_Qv (fun _ : Unit => True) (mu_B D (ws_N cI r rr ra th Sr (off, nm, ng, now, F, R)) sz (fun _ => ws_N cI r rr ra th Sr (off, nm, ng + 1, now, F, sn_R R ng k9 m9 f9 t9 v9 w9))) (va_A (ws_N cI r rr ra th Sr (off, nm, ng, now, F, R)) sz)) 0 0 (va_A (ws_N cI r rr ra th Sr (off, nm, ng, now, F, R)) sz) := by
  refine Met.ofW (cc := c_N_send) (maxL := 8) (ret := none) (by decide) rfl ?_
  intro p e s m args below meth c s₁ B hml hv
  obtain ⟨rfl, hsz, hP, hD0, hX, hY⟩ := hv
  have hx := B.exec
  have hb := B.bytes
  have hr := B.returns
  have htw : ∀ w ∈ tw_L, w.before _ s = true := fun w hw => atoms_spec (ws := (Cond.code y_N_send c_N_send 8 none :: tw_L)) B.pre w (List.mem_cons_of_mem _ hw)
  have hown : s.vm.findClass R_N = some m.cls := findClass_of_methodNamed B.named
  have hlocks := B.notSynchronized
  have hC : CallFix p m c c_N_send 8 s _ tw_L R_N := ⟨hx, hb, hml, hown, htw⟩
  have hK := hY.1
  have hl := lv_entry ([.ref r, .int k9, .int m9, .int f9, .int t9, .int v9, .int w9]) (n := 8) (Nat.le_of_ble_eq_true rfl)
  rw [lg_entry_eq]
  generalize (lg_sl ([.ref r, .int k9, .int m9, .int f9, .int t9, .int v9, .int w9]) ++ List.replicate (8 - (lg_sl ([.ref r, .int k9, .int m9, .int f9, .int t9, .int v9, .int w9])).length) Slot.unset).toArray = ls at hl ⊢
  have hl : lv_has ls 8 [(0, .ref r), (1, .int k9), (2, .int m9), (3, .int f9), (4, .int t9), (5, .int v9), (6, .int w9)] := hl
  subst hsz
  obtain ⟨A, hAe⟩ : ∃ A : Nat → Prop, A = va_A (ws_N cI r rr ra th Sr (off, nm, ng, now, F, R)) s.heap.size := ⟨_, rfl⟩
  have hD : va_D A (ws_N cI r rr ra th Sr (off, nm, ng, now, F, R)) := by rw [hAe]; exact hD0.self
  have hA : ∀ q : Nat, s.heap.size ≤ q → A q := fun q h => by rw [hAe]; exact Or.inr h
  have hS : va_S A s.heap s.heap [] := va_S.rf
  refine lv_bipush (v := 7) hx hb d_N_send_0 (by decide) ?_
  refine lv_aload_n hx hb d_N_send_2 rfl (lv_at hl 0 rfl) ?_
  refine va_get (D := D) (C := R_N) (T := F_N) (N := 25) hx hb htw uw_N hown hK hP 0 rfl rfl 3 (by decide) (htw _ k_N_80) (fun _ h9 => h9) rfl d_N_send_3 ?_
  refine lv_imul hx hb d_N_send_6 ?_
  refine sk_as (y := nI (7 * ng)) (pk_mul 7 ng) ?_
  refine lv_istore (lv' := [(7, .int (nI (7 * ng))), (0, .ref r), (1, .int k9), (2, .int m9), (3, .int f9), (4, .int t9), (5, .int v9), (6, .int w9)]) hx hb d_N_send_7 hl (by decide) rfl (fun ls hl => ?_)
  refine lv_aload_n hx hb d_N_send_9 rfl (lv_at hl 1 rfl) ?_
  refine va_get (D := D) (C := R_N) (T := F_N) (N := 25) hx hb htw uw_N hown hK hP 0 rfl rfl 24 (by decide) (htw _ k_N_67) (fun _ h9 => h9) rfl d_N_send_10 ?_
  refine lv_iload hx hb d_N_send_13 (lv_at hl 0 rfl) ?_
  refine lv_iload_n hx hb d_N_send_15 rfl (lv_at hl 2 rfl) ?_
  refine ar_st hx hb hK hP hD hS 1 2 rfl rfl (show 7 * ng < 2800 by omega) (by decide) d_N_send_16 (fun H locs hP hD hS => ?_)
  have hP : va_P D cl_L (ws_N cI r rr ra th Sr (off, nm, ng, now, F, upd R (7 * ng) k9)) H := hP
  have hD : va_D A (ws_N cI r rr ra th Sr (off, nm, ng, now, F, upd R (7 * ng) k9)) := hD
  refine lv_aload_n hx hb d_N_send_17 rfl (lv_at hl 1 rfl) ?_
  refine va_get (D := D) (C := R_N) (T := F_N) (N := 25) hx hb htw uw_N hown hK hP 0 rfl rfl 24 (by decide) (htw _ k_N_67) (fun _ h9 => h9) rfl d_N_send_18 ?_
  refine lv_iload hx hb d_N_send_21 (lv_at hl 0 rfl) ?_
  refine lv_iconst (v := 1) hx hb d_N_send_23 (by decide) ?_
  refine lv_iadd hx hb d_N_send_24 ?_
  refine sk_as (y := nI (7 * ng + 1)) (nI_add (7 * ng) 1) ?_
  refine lv_iload_n hx hb d_N_send_25 rfl (lv_at hl 3 rfl) ?_
  refine ar_st hx hb hK hP hD hS 1 2 rfl rfl (show 7 * ng + 1 < 2800 by omega) (by decide) d_N_send_26 (fun H locs hP hD hS => ?_)
  have hP : va_P D cl_L (ws_N cI r rr ra th Sr (off, nm, ng, now, F, upd (upd R (7 * ng) k9) (7 * ng + 1) m9)) H := hP
  have hD : va_D A (ws_N cI r rr ra th Sr (off, nm, ng, now, F, upd (upd R (7 * ng) k9) (7 * ng + 1) m9)) := hD
  refine lv_aload_n hx hb d_N_send_27 rfl (lv_at hl 1 rfl) ?_
  refine va_get (D := D) (C := R_N) (T := F_N) (N := 25) hx hb htw uw_N hown hK hP 0 rfl rfl 24 (by decide) (htw _ k_N_67) (fun _ h9 => h9) rfl d_N_send_28 ?_
  refine lv_iload hx hb d_N_send_31 (lv_at hl 0 rfl) ?_
  refine lv_iconst (v := 2) hx hb d_N_send_33 (by decide) ?_
  refine lv_iadd hx hb d_N_send_34 ?_
  refine sk_as (y := nI (7 * ng + 2)) (nI_add (7 * ng) 2) ?_
  refine lv_iload_n hx hb d_N_send_35 rfl (lv_at hl 4 rfl) ?_
  refine ar_st hx hb hK hP hD hS 1 2 rfl rfl (show 7 * ng + 2 < 2800 by omega) (by decide) d_N_send_36 (fun H locs hP hD hS => ?_)
  have hP : va_P D cl_L (ws_N cI r rr ra th Sr (off, nm, ng, now, F, upd (upd (upd R (7 * ng) k9) (7 * ng + 1) m9) (7 * ng + 2) f9)) H := hP
  have hD : va_D A (ws_N cI r rr ra th Sr (off, nm, ng, now, F, upd (upd (upd R (7 * ng) k9) (7 * ng + 1) m9) (7 * ng + 2) f9)) := hD
  refine lv_aload_n hx hb d_N_send_37 rfl (lv_at hl 1 rfl) ?_
  refine va_get (D := D) (C := R_N) (T := F_N) (N := 25) hx hb htw uw_N hown hK hP 0 rfl rfl 24 (by decide) (htw _ k_N_67) (fun _ h9 => h9) rfl d_N_send_38 ?_
  refine lv_iload hx hb d_N_send_41 (lv_at hl 0 rfl) ?_
  refine lv_iconst (v := 3) hx hb d_N_send_43 (by decide) ?_
  refine lv_iadd hx hb d_N_send_44 ?_
  refine sk_as (y := nI (7 * ng + 3)) (nI_add (7 * ng) 3) ?_
  refine lv_iload hx hb d_N_send_45 (lv_at hl 5 rfl) ?_
  refine ar_st hx hb hK hP hD hS 1 2 rfl rfl (show 7 * ng + 3 < 2800 by omega) (by decide) d_N_send_47 (fun H locs hP hD hS => ?_)
  have hP : va_P D cl_L (ws_N cI r rr ra th Sr (off, nm, ng, now, F, upd (upd (upd (upd R (7 * ng) k9) (7 * ng + 1) m9) (7 * ng + 2) f9) (7 * ng + 3) t9)) H := hP
  have hD : va_D A (ws_N cI r rr ra th Sr (off, nm, ng, now, F, upd (upd (upd (upd R (7 * ng) k9) (7 * ng + 1) m9) (7 * ng + 2) f9) (7 * ng + 3) t9)) := hD
  refine lv_aload_n hx hb d_N_send_48 rfl (lv_at hl 1 rfl) ?_
  refine va_get (D := D) (C := R_N) (T := F_N) (N := 25) hx hb htw uw_N hown hK hP 0 rfl rfl 24 (by decide) (htw _ k_N_67) (fun _ h9 => h9) rfl d_N_send_49 ?_
  refine lv_iload hx hb d_N_send_52 (lv_at hl 0 rfl) ?_
  refine lv_iconst (v := 4) hx hb d_N_send_54 (by decide) ?_
  refine lv_iadd hx hb d_N_send_55 ?_
  refine sk_as (y := nI (7 * ng + 4)) (nI_add (7 * ng) 4) ?_
  refine lv_iload hx hb d_N_send_56 (lv_at hl 6 rfl) ?_
  refine ar_st hx hb hK hP hD hS 1 2 rfl rfl (show 7 * ng + 4 < 2800 by omega) (by decide) d_N_send_58 (fun H locs hP hD hS => ?_)
  have hP : va_P D cl_L (ws_N cI r rr ra th Sr (off, nm, ng, now, F, upd (upd (upd (upd (upd R (7 * ng) k9) (7 * ng + 1) m9) (7 * ng + 2) f9) (7 * ng + 3) t9) (7 * ng + 4) v9)) H := hP
  have hD : va_D A (ws_N cI r rr ra th Sr (off, nm, ng, now, F, upd (upd (upd (upd (upd R (7 * ng) k9) (7 * ng + 1) m9) (7 * ng + 2) f9) (7 * ng + 3) t9) (7 * ng + 4) v9)) := hD
  refine lv_aload_n hx hb d_N_send_59 rfl (lv_at hl 1 rfl) ?_
  refine va_get (D := D) (C := R_N) (T := F_N) (N := 25) hx hb htw uw_N hown hK hP 0 rfl rfl 24 (by decide) (htw _ k_N_67) (fun _ h9 => h9) rfl d_N_send_60 ?_
  refine lv_iload hx hb d_N_send_63 (lv_at hl 0 rfl) ?_
  refine lv_iconst (v := 5) hx hb d_N_send_65 (by decide) ?_
  refine lv_iadd hx hb d_N_send_66 ?_
  refine sk_as (y := nI (7 * ng + 5)) (nI_add (7 * ng) 5) ?_
  refine lv_iload hx hb d_N_send_67 (lv_at hl 7 rfl) ?_
  refine ar_st hx hb hK hP hD hS 1 2 rfl rfl (show 7 * ng + 5 < 2800 by omega) (by decide) d_N_send_69 (fun H locs hP hD hS => ?_)
  have hP : va_P D cl_L (ws_N cI r rr ra th Sr (off, nm, ng, now, F, upd (upd (upd (upd (upd (upd R (7 * ng) k9) (7 * ng + 1) m9) (7 * ng + 2) f9) (7 * ng + 3) t9) (7 * ng + 4) v9) (7 * ng + 5) w9)) H := hP
  have hD : va_D A (ws_N cI r rr ra th Sr (off, nm, ng, now, F, upd (upd (upd (upd (upd (upd R (7 * ng) k9) (7 * ng + 1) m9) (7 * ng + 2) f9) (7 * ng + 3) t9) (7 * ng + 4) v9) (7 * ng + 5) w9)) := hD
  refine lv_aload_n hx hb d_N_send_70 rfl (lv_at hl 1 rfl) ?_
  refine va_get (D := D) (C := R_N) (T := F_N) (N := 25) hx hb htw uw_N hown hK hP 0 rfl rfl 24 (by decide) (htw _ k_N_67) (fun _ h9 => h9) rfl d_N_send_71 ?_
  refine lv_iload hx hb d_N_send_74 (lv_at hl 0 rfl) ?_
  refine lv_bipush (v := 6) hx hb d_N_send_76 (by decide) ?_
  refine lv_iadd hx hb d_N_send_78 ?_
  refine sk_as (y := nI (7 * ng + 6)) (nI_add (7 * ng) 6) ?_
  refine lv_iconst (v := 0) hx hb d_N_send_79 (by decide) ?_
  refine ar_st hx hb hK hP hD hS 1 2 rfl rfl (show 7 * ng + 6 < 2800 by omega) (by decide) d_N_send_80 (fun H locs hP hD hS => ?_)
  have hP : va_P D cl_L (ws_N cI r rr ra th Sr (off, nm, ng, now, F, upd (upd (upd (upd (upd (upd (upd R (7 * ng) k9) (7 * ng + 1) m9) (7 * ng + 2) f9) (7 * ng + 3) t9) (7 * ng + 4) v9) (7 * ng + 5) w9) (7 * ng + 6) 0)) H := hP
  have hD : va_D A (ws_N cI r rr ra th Sr (off, nm, ng, now, F, upd (upd (upd (upd (upd (upd (upd R (7 * ng) k9) (7 * ng + 1) m9) (7 * ng + 2) f9) (7 * ng + 3) t9) (7 * ng + 4) v9) (7 * ng + 5) w9) (7 * ng + 6) 0)) := hD
  refine lv_aload_n hx hb d_N_send_81 rfl (lv_at hl 1 rfl) ?_
  refine lv_dup hx hb d_N_send_82 rfl ?_
  refine va_get (D := D) (C := R_N) (T := F_N) (N := 25) hx hb htw uw_N hown hK hP 0 rfl rfl 3 (by decide) (htw _ k_N_80) (fun _ h9 => h9) rfl d_N_send_83 ?_
  refine lv_iconst (v := 1) hx hb d_N_send_86 (by decide) ?_
  refine lv_iadd hx hb d_N_send_87 ?_
  refine sk_as (y := nI (ng + 1)) (nI_add (ng) 1) ?_
  refine va_put (D := D) (ci := 3) (v := .int (nI (ng + 1))) (ty := .int) (C := R_N) (T := F_N) (N := 25) hx hb htw uw_N ft_N tk_N n_N hown hK hP hD hS 0 rfl rfl 3 (by decide) (htw _ k_N_80) (fun _ h9 => h9) rfl (by decide +kernel) rfl rfl (Nat.le_of_ble_eq_true rfl) d_N_send_88 (fun H locs hP hD hS => ?_)
  have e_n : ((nI (ng + 1)) : Int32) = nI (ng + 1) := rfl
  rw [e_n] at hP hD
  have hP : va_P D cl_L (ws_N cI r rr ra th Sr (off, nm, ng + 1, now, F, upd (upd (upd (upd (upd (upd (upd R (7 * ng) k9) (7 * ng + 1) m9) (7 * ng + 2) f9) (7 * ng + 3) t9) (7 * ng + 4) v9) (7 * ng + 5) w9) (7 * ng + 6) 0)) H := hP
  have hD : va_D A (ws_N cI r rr ra th Sr (off, nm, ng + 1, now, F, upd (upd (upd (upd (upd (upd (upd R (7 * ng) k9) (7 * ng + 1) m9) (7 * ng + 2) f9) (7 * ng + 3) t9) (7 * ng + 4) v9) (7 * ng + 5) w9) (7 * ng + 6) 0)) := hD
  subst hAe
  exact W.vret hx hb hr (fun t ht hW => ⟨⟨(), rfl, trivial, by rw [ht]; exact hP, hD⟩, hS.F ht⟩) hS.2.2 d_N_send_91
set_option maxHeartbeats 4000000 in
set_option maxRecDepth 100000 in
theorem t_N_tellArrival (l : Launch) (D : va_G) (cM cG cI cJ : ClassId) (r rr : Nat) (ra : Nat → Nat) (th : Int32) (Sr : Nat → Int32) (off : Int32) (nm ng : Nat) (now : Int32) (F : Nat → Nat → Int32) (R : Nat → Int32) (sz : Nat) (i : Nat) (hi : i < 20) (hg : ng < 400) : Met l y_N_tellArrival (Cond.code y_N_tellArrival c_N_tellArrival 2 none :: tw_L) ({ frames := 1, cells := 0, slots := 0, locals := 27 } : Room) (mu_P D (ws_N cI r rr ra th Sr (off, nm, ng, now, F, R)) sz (fun _ _ => True) (yt_P D cM cG cI cJ) [.ref r, .int (nI i)]) (va_Qv (fun _ : Unit => True) (mu_B D (ws_N cI r rr ra th Sr (off, nm, ng, now, F, R)) sz (fun _ => ws_N cI r rr ra th Sr (off, nm, ng + 1, now, F, sn_R R ng 2 (nI i) (F 6 i) (F 0 i) (Sr i) (F 8 i)))) (va_A (ws_N cI r rr ra th Sr (off, nm, ng, now, F, R)) sz)) 0 0 (va_A (ws_N cI r rr ra th Sr (off, nm, ng, now, F, R)) sz) := by
  refine Met.ofW (cc := c_N_tellArrival) (maxL := 2) (ret := none) (by decide) rfl ?_
  intro p e s m args below meth c s₁ B hml hv
  obtain ⟨rfl, hsz, hP, hD0, hX, hY⟩ := hv
  have hx := B.exec
  have hb := B.bytes
  have hr := B.returns
  have htw : ∀ w ∈ tw_L, w.before _ s = true := fun w hw => atoms_spec (ws := (Cond.code y_N_tellArrival c_N_tellArrival 2 none :: tw_L)) B.pre w (List.mem_cons_of_mem _ hw)
  have hown : s.vm.findClass R_N = some m.cls := findClass_of_methodNamed B.named
  have hlocks := B.notSynchronized
  have hC : CallFix p m c c_N_tellArrival 2 s _ tw_L R_N := ⟨hx, hb, hml, hown, htw⟩
  have hK := hY.1
  have hl := lv_entry ([.ref r, .int (nI i)]) (n := 2) (Nat.le_of_ble_eq_true rfl)
  rw [lg_entry_eq]
  generalize (lg_sl ([.ref r, .int (nI i)]) ++ List.replicate (2 - (lg_sl ([.ref r, .int (nI i)])).length) Slot.unset).toArray = ls at hl ⊢
  have hl : lv_has ls 2 [(0, .ref r), (1, .int (nI i))] := hl
  subst hsz
  obtain ⟨A, hAe⟩ : ∃ A : Nat → Prop, A = va_A (ws_N cI r rr ra th Sr (off, nm, ng, now, F, R)) s.heap.size := ⟨_, rfl⟩
  have hD : va_D A (ws_N cI r rr ra th Sr (off, nm, ng, now, F, R)) := by rw [hAe]; exact hD0.self
  have hA : ∀ q : Nat, s.heap.size ≤ q → A q := fun q h => by rw [hAe]; exact Or.inr h
  have hS : va_S A s.heap s.heap [] := va_S.rf
  refine lv_aload_n hx hb d_N_tellArrival_0 rfl (lv_at hl 0 rfl) ?_
  refine lv_iconst (v := 2) hx hb d_N_tellArrival_1 (by decide) ?_
  refine lv_iload_n hx hb d_N_tellArrival_2 rfl (lv_at hl 1 rfl) ?_
  refine lv_aload_n hx hb d_N_tellArrival_3 rfl (lv_at hl 0 rfl) ?_
  refine va_get (D := D) (C := R_N) (T := F_N) (N := 25) hx hb htw uw_N hown hK hP 0 rfl rfl 11 (by decide) (htw _ k_N_28) (fun _ h9 => h9) rfl d_N_tellArrival_4 ?_
  refine lv_iload_n hx hb d_N_tellArrival_7 rfl (lv_at hl 1 rfl) ?_
  refine ar_ld hx hb hK hP 8 2 rfl rfl hi (by decide) d_N_tellArrival_8 ?_
  refine lv_aload_n hx hb d_N_tellArrival_9 rfl (lv_at hl 0 rfl) ?_
  refine va_get (D := D) (C := R_N) (T := F_N) (N := 25) hx hb htw uw_N hown hK hP 0 rfl rfl 5 (by decide) (htw _ k_N_7) (fun _ h9 => h9) rfl d_N_tellArrival_10 ?_
  refine lv_iload_n hx hb d_N_tellArrival_13 rfl (lv_at hl 1 rfl) ?_
  refine ar_ld hx hb hK hP 2 2 rfl rfl hi (by decide) d_N_tellArrival_14 ?_
  refine lv_aload_n hx hb d_N_tellArrival_15 rfl (lv_at hl 0 rfl) ?_
  refine va_get (D := D) (C := R_N) (T := F_N) (N := 25) hx hb htw uw_N hown hK hP 0 rfl rfl 12 (by decide) (htw _ k_N_31) (fun _ h9 => h9) rfl d_N_tellArrival_16 ?_
  refine lv_iload_n hx hb d_N_tellArrival_19 rfl (lv_at hl 1 rfl) ?_
  refine ar_ld hx hb hK hP 9 2 rfl rfl hi (by decide) d_N_tellArrival_20 ?_
  refine lv_aload_n hx hb d_N_tellArrival_21 rfl (lv_at hl 0 rfl) ?_
  refine va_get (D := D) (C := R_N) (T := F_N) (N := 25) hx hb htw uw_N hown hK hP 0 rfl rfl 13 (by decide) (htw _ k_N_34) (fun _ h9 => h9) rfl d_N_tellArrival_22 ?_
  refine lv_iload_n hx hb d_N_tellArrival_25 rfl (lv_at hl 1 rfl) ?_
  refine ar_ld hx hb hK hP 10 2 rfl rfl hi (by decide) d_N_tellArrival_26 ?_
  have hF9 := wk_F hD hS hA
  refine cm_V (n := 6) [.int 2, .int (nI i), .int (F 6 i), .int (F 0 i), .int (Sr i), .int (F 8 i)] hC (t_N_send l D cM cG cI cJ r rr ra th Sr off nm ng now F R _ 2 (nI i) (F 6 i) (F 0 i) (Sr i) (F 8 i) hg) ⟨kc_N_send, kn_N, k_N_96, ki_N_send, kv_N_send⟩ (by decide +kernel) ⟨rfl, rfl, Nat.le_of_ble_eq_true rfl, Nat.le_of_ble_eq_true rfl⟩ x_0 (yt_Y D cM cG cI cJ) hY trivial (va_recv hK hP (ci := 3) (q0 := 0) rfl rfl) hP (wk_T hD) hS hF9 rfl hl.1 rfl (Nat.le_of_ble_eq_true rfl) d_N_tellArrival_27 ⟨Nat.le_of_ble_eq_true rfl, Nat.le_of_ble_eq_true rfl⟩ (fun _ H locs _ hP1 hD1 hz9 hk9 hS => ?_)
  have hP : va_P D cl_L (ws_N cI r rr ra th Sr (off, nm, ng + 1, now, F, sn_R R ng 2 (nI i) (F 6 i) (F 0 i) (Sr i) (F 8 i))) H := hP1
  have hD : va_D A (ws_N cI r rr ra th Sr (off, nm, ng + 1, now, F, sn_R R ng 2 (nI i) (F 6 i) (F 0 i) (Sr i) (F 8 i))) := wk_D hD1 hF9
  subst hAe
  exact W.vret hx hb hr (fun t ht hW => ⟨⟨(), rfl, trivial, by rw [ht]; exact hP, hD⟩, hS.F ht⟩) hS.2.2 d_N_tellArrival_30
set_option maxHeartbeats 4000000 in
set_option maxRecDepth 100000 in
theorem t_N_tellResult (l : Launch) (D : va_G) (cM cG cI cJ : ClassId) (r rr : Nat) (ra : Nat → Nat) (th : Int32) (Sr : Nat → Int32) (off : Int32) (nm ng : Nat) (now : Int32) (F : Nat → Nat → Int32) (R : Nat → Int32) (sz : Nat) (i : Nat) (hi : i < 20) (hg : ng < 400) : Met l y_N_tellResult (Cond.code y_N_tellResult c_N_tellResult 2 none :: tw_L) ({ frames := 1, cells := 0, slots := 0, locals := 27 } : Room) (mu_P D (ws_N cI r rr ra th Sr (off, nm, ng, now, F, R)) sz (fun _ _ => True) (yt_P D cM cG cI cJ) [.ref r, .int (nI i)]) (va_Qv (fun _ : Unit => True) (mu_B D (ws_N cI r rr ra th Sr (off, nm, ng, now, F, R)) sz (fun _ => ws_N cI r rr ra th Sr (off, nm, ng + 1, now, F, sn_R R ng 3 (nI i) (F 6 i) (F 0 i) (F 9 i) (Sr i)))) (va_A (ws_N cI r rr ra th Sr (off, nm, ng, now, F, R)) sz)) 0 0 (va_A (ws_N cI r rr ra th Sr (off, nm, ng, now, F, R)) sz) := by
  refine Met.ofW (cc := c_N_tellResult) (maxL := 2) (ret := none) (by decide) rfl ?_
  intro p e s m args below meth c s₁ B hml hv
  obtain ⟨rfl, hsz, hP, hD0, hX, hY⟩ := hv
  have hx := B.exec
  have hb := B.bytes
  have hr := B.returns
  have htw : ∀ w ∈ tw_L, w.before _ s = true := fun w hw => atoms_spec (ws := (Cond.code y_N_tellResult c_N_tellResult 2 none :: tw_L)) B.pre w (List.mem_cons_of_mem _ hw)
  have hown : s.vm.findClass R_N = some m.cls := findClass_of_methodNamed B.named
  have hlocks := B.notSynchronized
  have hC : CallFix p m c c_N_tellResult 2 s _ tw_L R_N := ⟨hx, hb, hml, hown, htw⟩
  have hK := hY.1
  have hl := lv_entry ([.ref r, .int (nI i)]) (n := 2) (Nat.le_of_ble_eq_true rfl)
  rw [lg_entry_eq]
  generalize (lg_sl ([.ref r, .int (nI i)]) ++ List.replicate (2 - (lg_sl ([.ref r, .int (nI i)])).length) Slot.unset).toArray = ls at hl ⊢
  have hl : lv_has ls 2 [(0, .ref r), (1, .int (nI i))] := hl
  subst hsz
  obtain ⟨A, hAe⟩ : ∃ A : Nat → Prop, A = va_A (ws_N cI r rr ra th Sr (off, nm, ng, now, F, R)) s.heap.size := ⟨_, rfl⟩
  have hD : va_D A (ws_N cI r rr ra th Sr (off, nm, ng, now, F, R)) := by rw [hAe]; exact hD0.self
  have hA : ∀ q : Nat, s.heap.size ≤ q → A q := fun q h => by rw [hAe]; exact Or.inr h
  have hS : va_S A s.heap s.heap [] := va_S.rf
  refine lv_aload_n hx hb d_N_tellResult_0 rfl (lv_at hl 0 rfl) ?_
  refine lv_iconst (v := 3) hx hb d_N_tellResult_1 (by decide) ?_
  refine lv_iload_n hx hb d_N_tellResult_2 rfl (lv_at hl 1 rfl) ?_
  refine lv_aload_n hx hb d_N_tellResult_3 rfl (lv_at hl 0 rfl) ?_
  refine va_get (D := D) (C := R_N) (T := F_N) (N := 25) hx hb htw uw_N hown hK hP 0 rfl rfl 11 (by decide) (htw _ k_N_28) (fun _ h9 => h9) rfl d_N_tellResult_4 ?_
  refine lv_iload_n hx hb d_N_tellResult_7 rfl (lv_at hl 1 rfl) ?_
  refine ar_ld hx hb hK hP 8 2 rfl rfl hi (by decide) d_N_tellResult_8 ?_
  refine lv_aload_n hx hb d_N_tellResult_9 rfl (lv_at hl 0 rfl) ?_
  refine va_get (D := D) (C := R_N) (T := F_N) (N := 25) hx hb htw uw_N hown hK hP 0 rfl rfl 5 (by decide) (htw _ k_N_7) (fun _ h9 => h9) rfl d_N_tellResult_10 ?_
  refine lv_iload_n hx hb d_N_tellResult_13 rfl (lv_at hl 1 rfl) ?_
  refine ar_ld hx hb hK hP 2 2 rfl rfl hi (by decide) d_N_tellResult_14 ?_
  refine lv_aload_n hx hb d_N_tellResult_15 rfl (lv_at hl 0 rfl) ?_
  refine va_get (D := D) (C := R_N) (T := F_N) (N := 25) hx hb htw uw_N hown hK hP 0 rfl rfl 14 (by decide) (htw _ k_N_37) (fun _ h9 => h9) rfl d_N_tellResult_16 ?_
  refine lv_iload_n hx hb d_N_tellResult_19 rfl (lv_at hl 1 rfl) ?_
  refine ar_ld hx hb hK hP 11 2 rfl rfl hi (by decide) d_N_tellResult_20 ?_
  refine lv_aload_n hx hb d_N_tellResult_21 rfl (lv_at hl 0 rfl) ?_
  refine va_get (D := D) (C := R_N) (T := F_N) (N := 25) hx hb htw uw_N hown hK hP 0 rfl rfl 12 (by decide) (htw _ k_N_31) (fun _ h9 => h9) rfl d_N_tellResult_22 ?_
  refine lv_iload_n hx hb d_N_tellResult_25 rfl (lv_at hl 1 rfl) ?_
  refine ar_ld hx hb hK hP 9 2 rfl rfl hi (by decide) d_N_tellResult_26 ?_
  have hF9 := wk_F hD hS hA
  refine cm_V (n := 6) [.int 3, .int (nI i), .int (F 6 i), .int (F 0 i), .int (F 9 i), .int (Sr i)] hC (t_N_send l D cM cG cI cJ r rr ra th Sr off nm ng now F R _ 3 (nI i) (F 6 i) (F 0 i) (F 9 i) (Sr i) hg) ⟨kc_N_send, kn_N, k_N_96, ki_N_send, kv_N_send⟩ (by decide +kernel) ⟨rfl, rfl, Nat.le_of_ble_eq_true rfl, Nat.le_of_ble_eq_true rfl⟩ x_0 (yt_Y D cM cG cI cJ) hY trivial (va_recv hK hP (ci := 3) (q0 := 0) rfl rfl) hP (wk_T hD) hS hF9 rfl hl.1 rfl (Nat.le_of_ble_eq_true rfl) d_N_tellResult_27 ⟨Nat.le_of_ble_eq_true rfl, Nat.le_of_ble_eq_true rfl⟩ (fun _ H locs _ hP1 hD1 hz9 hk9 hS => ?_)
  have hP : va_P D cl_L (ws_N cI r rr ra th Sr (off, nm, ng + 1, now, F, sn_R R ng 3 (nI i) (F 6 i) (F 0 i) (F 9 i) (Sr i))) H := hP1
  have hD : va_D A (ws_N cI r rr ra th Sr (off, nm, ng + 1, now, F, sn_R R ng 3 (nI i) (F 6 i) (F 0 i) (F 9 i) (Sr i))) := wk_D hD1 hF9
  subst hAe
  exact W.vret hx hb hr (fun t ht hW => ⟨⟨(), rfl, trivial, by rw [ht]; exact hP, hD⟩, hS.F ht⟩) hS.2.2 d_N_tellResult_30
theorem mn_e {n p : Int32} (h : p ≤ n) : mn_I n p = p := by
  simp only [mn_I, i_lt]
  rw [i_le] at h
  by_cases q : p.toInt < n.toInt
  · rw [if_pos q]
  · rw [if_neg q]; exact i_eq.mpr (by omega)
theorem mn_n {n p : Int32} (h : ¬ p ≤ n) : mn_I n p = n := by
  simp only [mn_I, i_lt]
  rw [i_le] at h
  rw [if_neg (by omega)]
theorem mx_e {a x : Int32} (h : x ≤ a) : mx_I a x = a := by
  simp only [mx_I, i_lt]
  rw [i_le] at h
  rw [if_neg (by omega)]
theorem mx_n {a x : Int32} (h : ¬ x ≤ a) : mx_I a x = x := by
  simp only [mx_I, i_lt]
  rw [i_le] at h
  rw [if_pos (by omega)]
set_option maxHeartbeats 4000000 in
set_option maxRecDepth 100000 in
theorem t_N_readResult (l : Launch) (D : va_G) (cM cG cI cJ : ClassId) (r rr : Nat) (ra : Nat → Nat) (th : Int32) (Sr : Nat → Int32) (off : Int32) (nm ng : Nat) (now : Int32) (F : Nat → Nat → Int32) (R : Nat → Int32) (sz : Nat) (a : Int32) (b : Int32) (i : Nat) (hi : i < 20) (hst : 1 ≤ (F 10 i).toInt ∧ (F 10 i).toInt ≤ 6) : Met l y_N_readResult (Cond.code y_N_readResult c_N_readResult 5 none :: tw_L) ({ frames := 0, cells := 0, slots := 0, locals := 0 } : Room) (mu_P D (ws_N cI r rr ra th Sr (off, nm, ng, now, F, R)) sz (fun _ _ => True) (yt_P D cM cG cI cJ) [.ref r, .int (nI i), .int a, .int b]) (va_Qv (fun _ : Unit => True) (mu_B D (ws_N cI r rr ra th Sr (off, nm, ng, now, F, R)) sz (fun _ => ws_N cI r rr ra th Sr (off, nm, ng, now, lr_F F i a b, R))) (va_A (ws_N cI r rr ra th Sr (off, nm, ng, now, F, R)) sz)) 0 0 (va_A (ws_N cI r rr ra th Sr (off, nm, ng, now, F, R)) sz) := by
  refine Met.ofW (cc := c_N_readResult) (maxL := 5) (ret := none) (by decide) rfl ?_
  intro p e s m args below meth c s₁ B hml hv
  obtain ⟨rfl, hsz, hP, hD0, hX, hY⟩ := hv
  have hx := B.exec
  have hb := B.bytes
  have hr := B.returns
  have htw : ∀ w ∈ tw_L, w.before _ s = true := fun w hw => atoms_spec (ws := (Cond.code y_N_readResult c_N_readResult 5 none :: tw_L)) B.pre w (List.mem_cons_of_mem _ hw)
  have hown : s.vm.findClass R_N = some m.cls := findClass_of_methodNamed B.named
  have hlocks := B.notSynchronized
  have hC : CallFix p m c c_N_readResult 5 s _ tw_L R_N := ⟨hx, hb, hml, hown, htw⟩
  have hK := hY.1
  have hl := lv_entry ([.ref r, .int (nI i), .int a, .int b]) (n := 5) (Nat.le_of_ble_eq_true rfl)
  rw [lg_entry_eq]
  generalize (lg_sl ([.ref r, .int (nI i), .int a, .int b]) ++ List.replicate (5 - (lg_sl ([.ref r, .int (nI i), .int a, .int b])).length) Slot.unset).toArray = ls at hl ⊢
  have hl : lv_has ls 5 [(0, .ref r), (1, .int (nI i)), (2, .int a), (3, .int b)] := hl
  subst hsz
  obtain ⟨A, hAe⟩ : ∃ A : Nat → Prop, A = va_A (ws_N cI r rr ra th Sr (off, nm, ng, now, F, R)) s.heap.size := ⟨_, rfl⟩
  have hD : va_D A (ws_N cI r rr ra th Sr (off, nm, ng, now, F, R)) := by rw [hAe]; exact hD0.self
  have hA : ∀ q : Nat, s.heap.size ≤ q → A q := fun q h => by rw [hAe]; exact Or.inr h
  have hS : va_S A s.heap s.heap [] := va_S.rf
  refine lv_aload_n hx hb d_N_readResult_0 rfl (lv_at hl 0 rfl) ?_
  refine va_get (D := D) (C := R_N) (T := F_N) (N := 25) hx hb htw uw_N hown hK hP 0 rfl rfl 21 (by decide) (htw _ k_N_58) (fun _ h9 => h9) rfl d_N_readResult_1 ?_
  refine lv_iload_n hx hb d_N_readResult_4 rfl (lv_at hl 1 rfl) ?_
  refine lv_iload_n hx hb d_N_readResult_5 rfl (lv_at hl 2 rfl) ?_
  refine ar_st hx hb hK hP hD hS 18 2 rfl rfl hi (by decide) d_N_readResult_6 (fun H locs hP hD hS => ?_)
  have hP : va_P D cl_L (ws_N cI r rr ra th Sr (off, nm, ng, now, up_F F 16 i a, R)) H := hP
  have hD : va_D A (ws_N cI r rr ra th Sr (off, nm, ng, now, up_F F 16 i a, R)) := hD
  refine lv_aload_n hx hb d_N_readResult_7 rfl (lv_at hl 0 rfl) ?_
  refine va_get (D := D) (C := R_N) (T := F_N) (N := 25) hx hb htw uw_N hown hK hP 0 rfl rfl 19 (by decide) (htw _ k_N_52) (fun _ h9 => h9) rfl d_N_readResult_8 ?_
  refine lv_iload_n hx hb d_N_readResult_11 rfl (lv_at hl 1 rfl) ?_
  refine lv_iload_n hx hb d_N_readResult_12 rfl (lv_at hl 3 rfl) ?_
  refine ar_st hx hb hK hP hD hS 16 2 rfl rfl hi (by decide) d_N_readResult_13 (fun H locs hP hD hS => ?_)
  have hP : va_P D cl_L (ws_N cI r rr ra th Sr (off, nm, ng, now, up_F (up_F F 16 i a) 14 i b, R)) H := hP
  have hD : va_D A (ws_N cI r rr ra th Sr (off, nm, ng, now, up_F (up_F F 16 i a) 14 i b, R)) := hD
  refine lv_aload_n hx hb d_N_readResult_14 rfl (lv_at hl 0 rfl) ?_
  refine va_get (D := D) (C := R_N) (T := F_N) (N := 25) hx hb htw uw_N hown hK hP 0 rfl rfl 15 (by decide) (htw _ k_N_40) (fun _ h9 => h9) rfl d_N_readResult_15 ?_
  refine lv_iload_n hx hb d_N_readResult_18 rfl (lv_at hl 1 rfl) ?_
  refine ar_ld hx hb hK hP 12 2 rfl rfl hi (by decide) d_N_readResult_19 ?_
  refine lv_iconst (v := 4) hx hb d_N_readResult_20 (by decide) ?_
  refine lv_icmp_le (tgt := 25) hx hb d_N_readResult_21 (by decide) (fun c1 => ?_) (fun c1 => ?_)
  · refine lv_iload_n hx hb d_N_readResult_25 rfl (lv_at hl 2 rfl) ?_
    refine lv_aload_n hx hb d_N_readResult_26 rfl (lv_at hl 0 rfl) ?_
    refine va_get (D := D) (C := R_N) (T := F_N) (N := 25) hx hb htw uw_N hown hK hP 0 rfl rfl 9 (by decide) (htw _ k_N_22) (fun _ h9 => h9) rfl d_N_readResult_27 ?_
    refine lv_iload_n hx hb d_N_readResult_30 rfl (lv_at hl 1 rfl) ?_
    refine ar_ld hx hb hK hP 6 2 rfl rfl hi (by decide) d_N_readResult_31 ?_
    refine lv_icmp_ge (tgt := 39) hx hb d_N_readResult_32 (by decide) (fun c2 => ?_) (fun c2 => ?_)
    · refine lv_aload_n hx hb d_N_readResult_39 rfl (lv_at hl 0 rfl) ?_
      refine va_get (D := D) (C := R_N) (T := F_N) (N := 25) hx hb htw uw_N hown hK hP 0 rfl rfl 9 (by decide) (htw _ k_N_22) (fun _ h9 => h9) rfl d_N_readResult_40 ?_
      refine lv_iload_n hx hb d_N_readResult_43 rfl (lv_at hl 1 rfl) ?_
      refine ar_ld hx hb hK hP 6 2 rfl rfl hi (by decide) d_N_readResult_44 ?_
      refine lv_istore (lv' := [(4, .int (F 4 i)), (0, .ref r), (1, .int (nI i)), (2, .int a), (3, .int b)]) hx hb d_N_readResult_45 hl (by decide) rfl (fun ls hl => ?_)
      refine lv_aload_n hx hb d_N_readResult_47 rfl (lv_at hl 1 rfl) ?_
      refine va_get (D := D) (C := R_N) (T := F_N) (N := 25) hx hb htw uw_N hown hK hP 0 rfl rfl 16 (by decide) (htw _ k_N_43) (fun _ h9 => h9) rfl d_N_readResult_48 ?_
      refine lv_iload_n hx hb d_N_readResult_51 rfl (lv_at hl 2 rfl) ?_
      refine lv_aload_n hx hb d_N_readResult_52 rfl (lv_at hl 1 rfl) ?_
      refine va_get (D := D) (C := R_N) (T := F_N) (N := 25) hx hb htw uw_N hown hK hP 0 rfl rfl 16 (by decide) (htw _ k_N_43) (fun _ h9 => h9) rfl d_N_readResult_53 ?_
      refine lv_iload_n hx hb d_N_readResult_56 rfl (lv_at hl 2 rfl) ?_
      refine ar_ld hx hb hK hP 13 2 rfl rfl hi (by decide) d_N_readResult_57 ?_
      refine lv_iload hx hb d_N_readResult_58 (lv_at hl 0 rfl) ?_
      refine lv_icmp_ge (tgt := 68) hx hb d_N_readResult_60 (by decide) (fun c3 => ?_) (fun c3 => ?_)
      · refine lv_aload_n hx hb d_N_readResult_68 rfl (lv_at hl 1 rfl) ?_
        refine va_get (D := D) (C := R_N) (T := F_N) (N := 25) hx hb htw uw_N hown hK hP 0 rfl rfl 16 (by decide) (htw _ k_N_43) (fun _ h9 => h9) rfl d_N_readResult_69 ?_
        refine lv_iload_n hx hb d_N_readResult_72 rfl (lv_at hl 2 rfl) ?_
        refine ar_ld hx hb hK hP 13 2 rfl rfl hi (by decide) d_N_readResult_73 ?_
        refine ar_st hx hb hK hP hD hS 13 2 rfl rfl hi (by decide) d_N_readResult_74 (fun H locs hP hD hS => ?_)
        have hP : va_P D cl_L (ws_N cI r rr ra th Sr (off, nm, ng, now, up_F (up_F (up_F F 16 i a) 14 i b) 11 i (F 11 i), R)) H := hP
        have hD : va_D A (ws_N cI r rr ra th Sr (off, nm, ng, now, up_F (up_F (up_F F 16 i a) 14 i b) 11 i (F 11 i), R)) := hD
        refine lv_aload_n hx hb d_N_readResult_75 rfl (lv_at hl 1 rfl) ?_
        refine va_get (D := D) (C := R_N) (T := F_N) (N := 25) hx hb htw uw_N hown hK hP 0 rfl rfl 15 (by decide) (htw _ k_N_40) (fun _ h9 => h9) rfl d_N_readResult_76 ?_
        refine lv_iload_n hx hb d_N_readResult_79 rfl (lv_at hl 2 rfl) ?_
        refine lv_iload_n hx hb d_N_readResult_80 rfl (lv_at hl 4 rfl) ?_
        refine lv_aload_n hx hb d_N_readResult_81 rfl (lv_at hl 1 rfl) ?_
        refine va_get (D := D) (C := R_N) (T := F_N) (N := 25) hx hb htw uw_N hown hK hP 0 rfl rfl 8 (by decide) (htw _ k_N_19) (fun _ h9 => h9) rfl d_N_readResult_82 ?_
        refine lv_iload_n hx hb d_N_readResult_85 rfl (lv_at hl 2 rfl) ?_
        refine ar_ld hx hb hK hP 5 2 rfl rfl hi (by decide) d_N_readResult_86 ?_
        refine lv_icmp_ne (tgt := 105) hx hb d_N_readResult_87 (by decide) (fun c4 => ?_) (fun c4 => ?_)
        · refine lv_iconst (v := 3) hx hb d_N_readResult_105 (by decide) ?_
          refine ar_st hx hb hK hP hD hS 12 2 rfl rfl hi (by decide) d_N_readResult_106 (fun H locs hP hD hS => ?_)
          have hP : va_P D cl_L (ws_N cI r rr ra th Sr (off, nm, ng, now, up_F (up_F (up_F (up_F F 16 i a) 14 i b) 11 i (F 11 i)) 10 i 3, R)) H := hP
          have hD : va_D A (ws_N cI r rr ra th Sr (off, nm, ng, now, up_F (up_F (up_F (up_F F 16 i a) 14 i b) 11 i (F 11 i)) 10 i 3, R)) := hD
          subst hAe
          have e_S : lr_F F i a b = up_F (up_F (up_F (up_F F 16 i a) 14 i b) 11 i (F 11 i)) 10 i 3 := by unfold lr_F; rw [if_neg ((n_en hst).mp c1), mn_e (show F 4 i ≤ a from c2), (mx_e (show F 4 i ≤ F 11 i from c3)), if_neg (fun q => c4 q.1)]
          exact W.vret hx hb hr (fun t ht hW => ⟨⟨(), rfl, trivial, by rw [ht, e_S]; exact hP, by rw [e_S]; exact hD⟩, hS.F ht⟩) hS.2.2 d_N_readResult_107
        · refine lv_iload_n hx hb d_N_readResult_90 rfl (lv_at hl 3 rfl) ?_
          refine lv_aload_n hx hb d_N_readResult_91 rfl (lv_at hl 1 rfl) ?_
          refine va_get (D := D) (C := R_N) (T := F_N) (N := 25) hx hb htw uw_N hown hK hP 0 rfl rfl 9 (by decide) (htw _ k_N_22) (fun _ h9 => h9) rfl d_N_readResult_92 ?_
          refine lv_iload_n hx hb d_N_readResult_95 rfl (lv_at hl 2 rfl) ?_
          refine ar_ld hx hb hK hP 6 2 rfl rfl hi (by decide) d_N_readResult_96 ?_
          refine lv_icmp_ne (tgt := 105) hx hb d_N_readResult_97 (by decide) (fun c5 => ?_) (fun c5 => ?_)
          · refine lv_iconst (v := 3) hx hb d_N_readResult_105 (by decide) ?_
            refine ar_st hx hb hK hP hD hS 12 2 rfl rfl hi (by decide) d_N_readResult_106 (fun H locs hP hD hS => ?_)
            have hP : va_P D cl_L (ws_N cI r rr ra th Sr (off, nm, ng, now, up_F (up_F (up_F (up_F F 16 i a) 14 i b) 11 i (F 11 i)) 10 i 3, R)) H := hP
            have hD : va_D A (ws_N cI r rr ra th Sr (off, nm, ng, now, up_F (up_F (up_F (up_F F 16 i a) 14 i b) 11 i (F 11 i)) 10 i 3, R)) := hD
            subst hAe
            have e_S : lr_F F i a b = up_F (up_F (up_F (up_F F 16 i a) 14 i b) 11 i (F 11 i)) 10 i 3 := by unfold lr_F; rw [if_neg ((n_en hst).mp c1), mn_e (show F 4 i ≤ a from c2), (mx_e (show F 4 i ≤ F 11 i from c3)), if_neg (fun q => c5 q.2)]
            exact W.vret hx hb hr (fun t ht hW => ⟨⟨(), rfl, trivial, by rw [ht, e_S]; exact hP, by rw [e_S]; exact hD⟩, hS.F ht⟩) hS.2.2 d_N_readResult_107
          · refine lv_bipush (v := 6) hx hb d_N_readResult_100 (by decide) ?_
            refine lv_goto (tgt := 106) hx hb d_N_readResult_102 (by decide) ?_
            refine ar_st hx hb hK hP hD hS 12 2 rfl rfl hi (by decide) d_N_readResult_106 (fun H locs hP hD hS => ?_)
            have hP : va_P D cl_L (ws_N cI r rr ra th Sr (off, nm, ng, now, up_F (up_F (up_F (up_F F 16 i a) 14 i b) 11 i (F 11 i)) 10 i 6, R)) H := hP
            have hD : va_D A (ws_N cI r rr ra th Sr (off, nm, ng, now, up_F (up_F (up_F (up_F F 16 i a) 14 i b) 11 i (F 11 i)) 10 i 6, R)) := hD
            subst hAe
            have e_S : lr_F F i a b = up_F (up_F (up_F (up_F F 16 i a) 14 i b) 11 i (F 11 i)) 10 i 6 := by unfold lr_F; rw [if_neg ((n_en hst).mp c1), mn_e (show F 4 i ≤ a from c2), (mx_e (show F 4 i ≤ F 11 i from c3)), if_pos ⟨c4, c5⟩]
            exact W.vret hx hb hr (fun t ht hW => ⟨⟨(), rfl, trivial, by rw [ht, e_S]; exact hP, by rw [e_S]; exact hD⟩, hS.F ht⟩) hS.2.2 d_N_readResult_107
      · refine lv_iload hx hb d_N_readResult_63 (lv_at hl 0 rfl) ?_
        refine lv_goto (tgt := 74) hx hb d_N_readResult_65 (by decide) ?_
        refine ar_st hx hb hK hP hD hS 13 2 rfl rfl hi (by decide) d_N_readResult_74 (fun H locs hP hD hS => ?_)
        have hP : va_P D cl_L (ws_N cI r rr ra th Sr (off, nm, ng, now, up_F (up_F (up_F F 16 i a) 14 i b) 11 i (F 4 i), R)) H := hP
        have hD : va_D A (ws_N cI r rr ra th Sr (off, nm, ng, now, up_F (up_F (up_F F 16 i a) 14 i b) 11 i (F 4 i), R)) := hD
        refine lv_aload_n hx hb d_N_readResult_75 rfl (lv_at hl 1 rfl) ?_
        refine va_get (D := D) (C := R_N) (T := F_N) (N := 25) hx hb htw uw_N hown hK hP 0 rfl rfl 15 (by decide) (htw _ k_N_40) (fun _ h9 => h9) rfl d_N_readResult_76 ?_
        refine lv_iload_n hx hb d_N_readResult_79 rfl (lv_at hl 2 rfl) ?_
        refine lv_iload_n hx hb d_N_readResult_80 rfl (lv_at hl 4 rfl) ?_
        refine lv_aload_n hx hb d_N_readResult_81 rfl (lv_at hl 1 rfl) ?_
        refine va_get (D := D) (C := R_N) (T := F_N) (N := 25) hx hb htw uw_N hown hK hP 0 rfl rfl 8 (by decide) (htw _ k_N_19) (fun _ h9 => h9) rfl d_N_readResult_82 ?_
        refine lv_iload_n hx hb d_N_readResult_85 rfl (lv_at hl 2 rfl) ?_
        refine ar_ld hx hb hK hP 5 2 rfl rfl hi (by decide) d_N_readResult_86 ?_
        refine lv_icmp_ne (tgt := 105) hx hb d_N_readResult_87 (by decide) (fun c6 => ?_) (fun c6 => ?_)
        · refine lv_iconst (v := 3) hx hb d_N_readResult_105 (by decide) ?_
          refine ar_st hx hb hK hP hD hS 12 2 rfl rfl hi (by decide) d_N_readResult_106 (fun H locs hP hD hS => ?_)
          have hP : va_P D cl_L (ws_N cI r rr ra th Sr (off, nm, ng, now, up_F (up_F (up_F (up_F F 16 i a) 14 i b) 11 i (F 4 i)) 10 i 3, R)) H := hP
          have hD : va_D A (ws_N cI r rr ra th Sr (off, nm, ng, now, up_F (up_F (up_F (up_F F 16 i a) 14 i b) 11 i (F 4 i)) 10 i 3, R)) := hD
          subst hAe
          have e_S : lr_F F i a b = up_F (up_F (up_F (up_F F 16 i a) 14 i b) 11 i (F 4 i)) 10 i 3 := by unfold lr_F; rw [if_neg ((n_en hst).mp c1), mn_e (show F 4 i ≤ a from c2), (mx_n (show ¬ F 4 i ≤ F 11 i from c3)), if_neg (fun q => c6 q.1)]
          exact W.vret hx hb hr (fun t ht hW => ⟨⟨(), rfl, trivial, by rw [ht, e_S]; exact hP, by rw [e_S]; exact hD⟩, hS.F ht⟩) hS.2.2 d_N_readResult_107
        · refine lv_iload_n hx hb d_N_readResult_90 rfl (lv_at hl 3 rfl) ?_
          refine lv_aload_n hx hb d_N_readResult_91 rfl (lv_at hl 1 rfl) ?_
          refine va_get (D := D) (C := R_N) (T := F_N) (N := 25) hx hb htw uw_N hown hK hP 0 rfl rfl 9 (by decide) (htw _ k_N_22) (fun _ h9 => h9) rfl d_N_readResult_92 ?_
          refine lv_iload_n hx hb d_N_readResult_95 rfl (lv_at hl 2 rfl) ?_
          refine ar_ld hx hb hK hP 6 2 rfl rfl hi (by decide) d_N_readResult_96 ?_
          refine lv_icmp_ne (tgt := 105) hx hb d_N_readResult_97 (by decide) (fun c7 => ?_) (fun c7 => ?_)
          · refine lv_iconst (v := 3) hx hb d_N_readResult_105 (by decide) ?_
            refine ar_st hx hb hK hP hD hS 12 2 rfl rfl hi (by decide) d_N_readResult_106 (fun H locs hP hD hS => ?_)
            have hP : va_P D cl_L (ws_N cI r rr ra th Sr (off, nm, ng, now, up_F (up_F (up_F (up_F F 16 i a) 14 i b) 11 i (F 4 i)) 10 i 3, R)) H := hP
            have hD : va_D A (ws_N cI r rr ra th Sr (off, nm, ng, now, up_F (up_F (up_F (up_F F 16 i a) 14 i b) 11 i (F 4 i)) 10 i 3, R)) := hD
            subst hAe
            have e_S : lr_F F i a b = up_F (up_F (up_F (up_F F 16 i a) 14 i b) 11 i (F 4 i)) 10 i 3 := by unfold lr_F; rw [if_neg ((n_en hst).mp c1), mn_e (show F 4 i ≤ a from c2), (mx_n (show ¬ F 4 i ≤ F 11 i from c3)), if_neg (fun q => c7 q.2)]
            exact W.vret hx hb hr (fun t ht hW => ⟨⟨(), rfl, trivial, by rw [ht, e_S]; exact hP, by rw [e_S]; exact hD⟩, hS.F ht⟩) hS.2.2 d_N_readResult_107
          · refine lv_bipush (v := 6) hx hb d_N_readResult_100 (by decide) ?_
            refine lv_goto (tgt := 106) hx hb d_N_readResult_102 (by decide) ?_
            refine ar_st hx hb hK hP hD hS 12 2 rfl rfl hi (by decide) d_N_readResult_106 (fun H locs hP hD hS => ?_)
            have hP : va_P D cl_L (ws_N cI r rr ra th Sr (off, nm, ng, now, up_F (up_F (up_F (up_F F 16 i a) 14 i b) 11 i (F 4 i)) 10 i 6, R)) H := hP
            have hD : va_D A (ws_N cI r rr ra th Sr (off, nm, ng, now, up_F (up_F (up_F (up_F F 16 i a) 14 i b) 11 i (F 4 i)) 10 i 6, R)) := hD
            subst hAe
            have e_S : lr_F F i a b = up_F (up_F (up_F (up_F F 16 i a) 14 i b) 11 i (F 4 i)) 10 i 6 := by unfold lr_F; rw [if_neg ((n_en hst).mp c1), mn_e (show F 4 i ≤ a from c2), (mx_n (show ¬ F 4 i ≤ F 11 i from c3)), if_pos ⟨c6, c7⟩]
            exact W.vret hx hb hr (fun t ht hW => ⟨⟨(), rfl, trivial, by rw [ht, e_S]; exact hP, by rw [e_S]; exact hD⟩, hS.F ht⟩) hS.2.2 d_N_readResult_107
    · refine lv_iload_n hx hb d_N_readResult_35 rfl (lv_at hl 2 rfl) ?_
      refine lv_goto (tgt := 45) hx hb d_N_readResult_36 (by decide) ?_
      refine lv_istore (lv' := [(4, .int a), (0, .ref r), (1, .int (nI i)), (2, .int a), (3, .int b)]) hx hb d_N_readResult_45 hl (by decide) rfl (fun ls hl => ?_)
      refine lv_aload_n hx hb d_N_readResult_47 rfl (lv_at hl 1 rfl) ?_
      refine va_get (D := D) (C := R_N) (T := F_N) (N := 25) hx hb htw uw_N hown hK hP 0 rfl rfl 16 (by decide) (htw _ k_N_43) (fun _ h9 => h9) rfl d_N_readResult_48 ?_
      refine lv_iload_n hx hb d_N_readResult_51 rfl (lv_at hl 2 rfl) ?_
      refine lv_aload_n hx hb d_N_readResult_52 rfl (lv_at hl 1 rfl) ?_
      refine va_get (D := D) (C := R_N) (T := F_N) (N := 25) hx hb htw uw_N hown hK hP 0 rfl rfl 16 (by decide) (htw _ k_N_43) (fun _ h9 => h9) rfl d_N_readResult_53 ?_
      refine lv_iload_n hx hb d_N_readResult_56 rfl (lv_at hl 2 rfl) ?_
      refine ar_ld hx hb hK hP 13 2 rfl rfl hi (by decide) d_N_readResult_57 ?_
      refine lv_iload hx hb d_N_readResult_58 (lv_at hl 0 rfl) ?_
      refine lv_icmp_ge (tgt := 68) hx hb d_N_readResult_60 (by decide) (fun c8 => ?_) (fun c8 => ?_)
      · refine lv_aload_n hx hb d_N_readResult_68 rfl (lv_at hl 1 rfl) ?_
        refine va_get (D := D) (C := R_N) (T := F_N) (N := 25) hx hb htw uw_N hown hK hP 0 rfl rfl 16 (by decide) (htw _ k_N_43) (fun _ h9 => h9) rfl d_N_readResult_69 ?_
        refine lv_iload_n hx hb d_N_readResult_72 rfl (lv_at hl 2 rfl) ?_
        refine ar_ld hx hb hK hP 13 2 rfl rfl hi (by decide) d_N_readResult_73 ?_
        refine ar_st hx hb hK hP hD hS 13 2 rfl rfl hi (by decide) d_N_readResult_74 (fun H locs hP hD hS => ?_)
        have hP : va_P D cl_L (ws_N cI r rr ra th Sr (off, nm, ng, now, up_F (up_F (up_F F 16 i a) 14 i b) 11 i (F 11 i), R)) H := hP
        have hD : va_D A (ws_N cI r rr ra th Sr (off, nm, ng, now, up_F (up_F (up_F F 16 i a) 14 i b) 11 i (F 11 i), R)) := hD
        refine lv_aload_n hx hb d_N_readResult_75 rfl (lv_at hl 1 rfl) ?_
        refine va_get (D := D) (C := R_N) (T := F_N) (N := 25) hx hb htw uw_N hown hK hP 0 rfl rfl 15 (by decide) (htw _ k_N_40) (fun _ h9 => h9) rfl d_N_readResult_76 ?_
        refine lv_iload_n hx hb d_N_readResult_79 rfl (lv_at hl 2 rfl) ?_
        refine lv_iload_n hx hb d_N_readResult_80 rfl (lv_at hl 4 rfl) ?_
        refine lv_aload_n hx hb d_N_readResult_81 rfl (lv_at hl 1 rfl) ?_
        refine va_get (D := D) (C := R_N) (T := F_N) (N := 25) hx hb htw uw_N hown hK hP 0 rfl rfl 8 (by decide) (htw _ k_N_19) (fun _ h9 => h9) rfl d_N_readResult_82 ?_
        refine lv_iload_n hx hb d_N_readResult_85 rfl (lv_at hl 2 rfl) ?_
        refine ar_ld hx hb hK hP 5 2 rfl rfl hi (by decide) d_N_readResult_86 ?_
        refine lv_icmp_ne (tgt := 105) hx hb d_N_readResult_87 (by decide) (fun c9 => ?_) (fun c9 => ?_)
        · refine lv_iconst (v := 3) hx hb d_N_readResult_105 (by decide) ?_
          refine ar_st hx hb hK hP hD hS 12 2 rfl rfl hi (by decide) d_N_readResult_106 (fun H locs hP hD hS => ?_)
          have hP : va_P D cl_L (ws_N cI r rr ra th Sr (off, nm, ng, now, up_F (up_F (up_F (up_F F 16 i a) 14 i b) 11 i (F 11 i)) 10 i 3, R)) H := hP
          have hD : va_D A (ws_N cI r rr ra th Sr (off, nm, ng, now, up_F (up_F (up_F (up_F F 16 i a) 14 i b) 11 i (F 11 i)) 10 i 3, R)) := hD
          subst hAe
          have e_S : lr_F F i a b = up_F (up_F (up_F (up_F F 16 i a) 14 i b) 11 i (F 11 i)) 10 i 3 := by unfold lr_F; rw [if_neg ((n_en hst).mp c1), mn_n (show ¬ F 4 i ≤ a from c2), (mx_e (show a ≤ F 11 i from c8)), if_neg (fun q => c9 q.1)]
          exact W.vret hx hb hr (fun t ht hW => ⟨⟨(), rfl, trivial, by rw [ht, e_S]; exact hP, by rw [e_S]; exact hD⟩, hS.F ht⟩) hS.2.2 d_N_readResult_107
        · refine lv_iload_n hx hb d_N_readResult_90 rfl (lv_at hl 3 rfl) ?_
          refine lv_aload_n hx hb d_N_readResult_91 rfl (lv_at hl 1 rfl) ?_
          refine va_get (D := D) (C := R_N) (T := F_N) (N := 25) hx hb htw uw_N hown hK hP 0 rfl rfl 9 (by decide) (htw _ k_N_22) (fun _ h9 => h9) rfl d_N_readResult_92 ?_
          refine lv_iload_n hx hb d_N_readResult_95 rfl (lv_at hl 2 rfl) ?_
          refine ar_ld hx hb hK hP 6 2 rfl rfl hi (by decide) d_N_readResult_96 ?_
          refine lv_icmp_ne (tgt := 105) hx hb d_N_readResult_97 (by decide) (fun c10 => ?_) (fun c10 => ?_)
          · refine lv_iconst (v := 3) hx hb d_N_readResult_105 (by decide) ?_
            refine ar_st hx hb hK hP hD hS 12 2 rfl rfl hi (by decide) d_N_readResult_106 (fun H locs hP hD hS => ?_)
            have hP : va_P D cl_L (ws_N cI r rr ra th Sr (off, nm, ng, now, up_F (up_F (up_F (up_F F 16 i a) 14 i b) 11 i (F 11 i)) 10 i 3, R)) H := hP
            have hD : va_D A (ws_N cI r rr ra th Sr (off, nm, ng, now, up_F (up_F (up_F (up_F F 16 i a) 14 i b) 11 i (F 11 i)) 10 i 3, R)) := hD
            subst hAe
            have e_S : lr_F F i a b = up_F (up_F (up_F (up_F F 16 i a) 14 i b) 11 i (F 11 i)) 10 i 3 := by unfold lr_F; rw [if_neg ((n_en hst).mp c1), mn_n (show ¬ F 4 i ≤ a from c2), (mx_e (show a ≤ F 11 i from c8)), if_neg (fun q => c10 q.2)]
            exact W.vret hx hb hr (fun t ht hW => ⟨⟨(), rfl, trivial, by rw [ht, e_S]; exact hP, by rw [e_S]; exact hD⟩, hS.F ht⟩) hS.2.2 d_N_readResult_107
          · refine lv_bipush (v := 6) hx hb d_N_readResult_100 (by decide) ?_
            refine lv_goto (tgt := 106) hx hb d_N_readResult_102 (by decide) ?_
            refine ar_st hx hb hK hP hD hS 12 2 rfl rfl hi (by decide) d_N_readResult_106 (fun H locs hP hD hS => ?_)
            have hP : va_P D cl_L (ws_N cI r rr ra th Sr (off, nm, ng, now, up_F (up_F (up_F (up_F F 16 i a) 14 i b) 11 i (F 11 i)) 10 i 6, R)) H := hP
            have hD : va_D A (ws_N cI r rr ra th Sr (off, nm, ng, now, up_F (up_F (up_F (up_F F 16 i a) 14 i b) 11 i (F 11 i)) 10 i 6, R)) := hD
            subst hAe
            have e_S : lr_F F i a b = up_F (up_F (up_F (up_F F 16 i a) 14 i b) 11 i (F 11 i)) 10 i 6 := by unfold lr_F; rw [if_neg ((n_en hst).mp c1), mn_n (show ¬ F 4 i ≤ a from c2), (mx_e (show a ≤ F 11 i from c8)), if_pos ⟨c9, c10⟩]
            exact W.vret hx hb hr (fun t ht hW => ⟨⟨(), rfl, trivial, by rw [ht, e_S]; exact hP, by rw [e_S]; exact hD⟩, hS.F ht⟩) hS.2.2 d_N_readResult_107
      · refine lv_iload hx hb d_N_readResult_63 (lv_at hl 0 rfl) ?_
        refine lv_goto (tgt := 74) hx hb d_N_readResult_65 (by decide) ?_
        refine ar_st hx hb hK hP hD hS 13 2 rfl rfl hi (by decide) d_N_readResult_74 (fun H locs hP hD hS => ?_)
        have hP : va_P D cl_L (ws_N cI r rr ra th Sr (off, nm, ng, now, up_F (up_F (up_F F 16 i a) 14 i b) 11 i a, R)) H := hP
        have hD : va_D A (ws_N cI r rr ra th Sr (off, nm, ng, now, up_F (up_F (up_F F 16 i a) 14 i b) 11 i a, R)) := hD
        refine lv_aload_n hx hb d_N_readResult_75 rfl (lv_at hl 1 rfl) ?_
        refine va_get (D := D) (C := R_N) (T := F_N) (N := 25) hx hb htw uw_N hown hK hP 0 rfl rfl 15 (by decide) (htw _ k_N_40) (fun _ h9 => h9) rfl d_N_readResult_76 ?_
        refine lv_iload_n hx hb d_N_readResult_79 rfl (lv_at hl 2 rfl) ?_
        refine lv_iload_n hx hb d_N_readResult_80 rfl (lv_at hl 4 rfl) ?_
        refine lv_aload_n hx hb d_N_readResult_81 rfl (lv_at hl 1 rfl) ?_
        refine va_get (D := D) (C := R_N) (T := F_N) (N := 25) hx hb htw uw_N hown hK hP 0 rfl rfl 8 (by decide) (htw _ k_N_19) (fun _ h9 => h9) rfl d_N_readResult_82 ?_
        refine lv_iload_n hx hb d_N_readResult_85 rfl (lv_at hl 2 rfl) ?_
        refine ar_ld hx hb hK hP 5 2 rfl rfl hi (by decide) d_N_readResult_86 ?_
        refine lv_icmp_ne (tgt := 105) hx hb d_N_readResult_87 (by decide) (fun c11 => ?_) (fun c11 => ?_)
        · refine lv_iconst (v := 3) hx hb d_N_readResult_105 (by decide) ?_
          refine ar_st hx hb hK hP hD hS 12 2 rfl rfl hi (by decide) d_N_readResult_106 (fun H locs hP hD hS => ?_)
          have hP : va_P D cl_L (ws_N cI r rr ra th Sr (off, nm, ng, now, up_F (up_F (up_F (up_F F 16 i a) 14 i b) 11 i a) 10 i 3, R)) H := hP
          have hD : va_D A (ws_N cI r rr ra th Sr (off, nm, ng, now, up_F (up_F (up_F (up_F F 16 i a) 14 i b) 11 i a) 10 i 3, R)) := hD
          subst hAe
          have e_S : lr_F F i a b = up_F (up_F (up_F (up_F F 16 i a) 14 i b) 11 i a) 10 i 3 := by unfold lr_F; rw [if_neg ((n_en hst).mp c1), mn_n (show ¬ F 4 i ≤ a from c2), (mx_n (show ¬ a ≤ F 11 i from c8)), if_neg (fun q => c11 q.1)]
          exact W.vret hx hb hr (fun t ht hW => ⟨⟨(), rfl, trivial, by rw [ht, e_S]; exact hP, by rw [e_S]; exact hD⟩, hS.F ht⟩) hS.2.2 d_N_readResult_107
        · refine lv_iload_n hx hb d_N_readResult_90 rfl (lv_at hl 3 rfl) ?_
          refine lv_aload_n hx hb d_N_readResult_91 rfl (lv_at hl 1 rfl) ?_
          refine va_get (D := D) (C := R_N) (T := F_N) (N := 25) hx hb htw uw_N hown hK hP 0 rfl rfl 9 (by decide) (htw _ k_N_22) (fun _ h9 => h9) rfl d_N_readResult_92 ?_
          refine lv_iload_n hx hb d_N_readResult_95 rfl (lv_at hl 2 rfl) ?_
          refine ar_ld hx hb hK hP 6 2 rfl rfl hi (by decide) d_N_readResult_96 ?_
          refine lv_icmp_ne (tgt := 105) hx hb d_N_readResult_97 (by decide) (fun c12 => ?_) (fun c12 => ?_)
          · refine lv_iconst (v := 3) hx hb d_N_readResult_105 (by decide) ?_
            refine ar_st hx hb hK hP hD hS 12 2 rfl rfl hi (by decide) d_N_readResult_106 (fun H locs hP hD hS => ?_)
            have hP : va_P D cl_L (ws_N cI r rr ra th Sr (off, nm, ng, now, up_F (up_F (up_F (up_F F 16 i a) 14 i b) 11 i a) 10 i 3, R)) H := hP
            have hD : va_D A (ws_N cI r rr ra th Sr (off, nm, ng, now, up_F (up_F (up_F (up_F F 16 i a) 14 i b) 11 i a) 10 i 3, R)) := hD
            subst hAe
            have e_S : lr_F F i a b = up_F (up_F (up_F (up_F F 16 i a) 14 i b) 11 i a) 10 i 3 := by unfold lr_F; rw [if_neg ((n_en hst).mp c1), mn_n (show ¬ F 4 i ≤ a from c2), (mx_n (show ¬ a ≤ F 11 i from c8)), if_neg (fun q => c12 q.2)]
            exact W.vret hx hb hr (fun t ht hW => ⟨⟨(), rfl, trivial, by rw [ht, e_S]; exact hP, by rw [e_S]; exact hD⟩, hS.F ht⟩) hS.2.2 d_N_readResult_107
          · refine lv_bipush (v := 6) hx hb d_N_readResult_100 (by decide) ?_
            refine lv_goto (tgt := 106) hx hb d_N_readResult_102 (by decide) ?_
            refine ar_st hx hb hK hP hD hS 12 2 rfl rfl hi (by decide) d_N_readResult_106 (fun H locs hP hD hS => ?_)
            have hP : va_P D cl_L (ws_N cI r rr ra th Sr (off, nm, ng, now, up_F (up_F (up_F (up_F F 16 i a) 14 i b) 11 i a) 10 i 6, R)) H := hP
            have hD : va_D A (ws_N cI r rr ra th Sr (off, nm, ng, now, up_F (up_F (up_F (up_F F 16 i a) 14 i b) 11 i a) 10 i 6, R)) := hD
            subst hAe
            have e_S : lr_F F i a b = up_F (up_F (up_F (up_F F 16 i a) 14 i b) 11 i a) 10 i 6 := by unfold lr_F; rw [if_neg ((n_en hst).mp c1), mn_n (show ¬ F 4 i ≤ a from c2), (mx_n (show ¬ a ≤ F 11 i from c8)), if_pos ⟨c11, c12⟩]
            exact W.vret hx hb hr (fun t ht hW => ⟨⟨(), rfl, trivial, by rw [ht, e_S]; exact hP, by rw [e_S]; exact hD⟩, hS.F ht⟩) hS.2.2 d_N_readResult_107
  · subst hAe
    have e_S : lr_F F i a b = up_F (up_F F 16 i a) 14 i b := by unfold lr_F; rw [if_pos (Classical.not_not.mp (fun q => c1 ((n_en hst).mpr q)))]
    exact W.vret hx hb hr (fun t ht hW => ⟨⟨(), rfl, trivial, by rw [ht, e_S]; exact hP, by rw [e_S]; exact hD⟩, hS.F ht⟩) hS.2.2 d_N_readResult_24
