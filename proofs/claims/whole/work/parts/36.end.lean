set_option maxHeartbeats 4000000 in
set_option maxRecDepth 100000 in
theorem whole_start {p : Program} {e : Env} {s : State} {m : MethodId} {below : List Frame} {meth : Method} {c : Code} (l : Launch) (hl0 : l.stackTraces = false) {b L : Nat} {xs : Nat → Int32} (hL : L ≤ 3585) (C0 : lw_At p s m meth c b L xs) : W p l e room_1 s m #[Value.ref b] below meth c s.heap [] 0 0 (lw_Z below #[Value.ref b] s) (entryFrame m ([Value.ref b] : List Value).toArray 7) := by
  obtain ⟨hx, hb, hr, hml, hown, hts, hX, hbl, hlocks, hgv⟩ := id C0
  have htw : ∀ w ∈ tw_L, w.before #[Value.ref b] s = true := fun w hw => hts w (List.mem_filter.mp hw).1
  obtain ⟨A, hAe⟩ : ∃ A : Nat → Prop, A = fun z => s.heap.size ≤ z := ⟨_, rfl⟩
  have hA : ∀ z : Nat, s.heap.size ≤ z → A z := fun z h => by rw [hAe]; exact h
  have hbA : ¬ A b := by rw [hAe]; exact Nat.not_le.mpr hbl
  have hC : CallFix p m c c_L_law 7 s #[Value.ref b] tw_L R_L := ⟨hx, hb, hml, hown, htw⟩
  obtain ⟨D, cM, cG, cI, cJ, hY⟩ := st_Y hts hgv
  obtain ⟨hXs, hXa⟩ := st_X (A := A) hts hgv (fun a ha => by rw [hAe]; exact Nat.not_le.mpr ha)
  have hK := hY.1
  have hS : va_S A s.heap s.heap [] := va_S.rf
  have hP : va_P D cl_L [] s.heap := fun k q h => by simp at h
  have hD : va_D A [] := ⟨fun i j p q h => by simp at h, fun k q h => by simp at h⟩
  have hl := lv_entry ([.ref b]) (n := 7) (Nat.le_of_ble_eq_true rfl)
  rw [lg_entry_eq]
  generalize (lg_sl ([.ref b]) ++ List.replicate (7 - (lg_sl ([.ref b])).length) Slot.unset).toArray = ls at hl ⊢
  have hl : lv_has ls 7 [(0, .ref b)] := hl
  refine va_new (ci := 0) (fs := [.int 0, .null, .null, .int 0, .int 0, .int 0]) (C := R_T) (T := F_T) (N := 6) hx hb htw uw_T ft_T tk_T hown (htw _ k_L_8) (htw _ kb_T) (htw _ kn_T) hK hP hD hS hA rfl (fun j hj => by rcases (show j = 0 ∨ j = 1 ∨ j = 2 ∨ j = 3 ∨ j = 4 ∨ j = 5 by omega) with rfl | rfl | rfl | rfl | rfl | rfl <;> rfl) (Nat.le_of_ble_eq_true rfl) (Nat.le_of_ble_eq_true rfl) d_L_law_0 (fun o H hP2 hD2 hS => ?_)
  have hP : va_P D cl_L [(o, .inr (0, [.int 0, .null, .null, .int 0, .int 0, .int 0]))] H := hP2
  have hD : va_D A [(o, .inr (0, [.int 0, .null, .null, .int 0, .int 0, .int 0]))] := hD2
  clear hP2 hD2
  refine lv_dup hx hb d_L_law_3 rfl ?_
  refine lv_aload_n hx hb d_L_law_4 rfl (lv_at hl 0 rfl) ?_
  refine lv_iconst (v := 0) hx hb d_L_law_5 (by decide) ?_
  refine cp_S (n := 2) [.ref b, .int 0] hC (t_L_cell l D cM cG cI cJ b L xs hL) ⟨kc_L_cell, kn_L, k_L_49, ks_L_cell⟩ (by decide +kernel) ⟨rfl, rfl, Nat.le_of_ble_eq_true rfl, Nat.le_of_ble_eq_true rfl⟩ va_X_X (yt_Y D cM cG cI cJ) hY (hX.kept (hS.2.1 b hbl hbA)) rfl hl.1 rfl (Nat.le_of_ble_eq_true rfl) d_L_law_6 ⟨Nat.le_of_ble_eq_true rfl, Nat.le_of_ble_eq_true rfl⟩ (fun r9 h9 => ?_)
  rw [h9]
  clear h9 r9
  have hF9 := wk_F hD hS hA
  refine cm_I (n := 1) [.int (cz_I L xs)] hC (t_T_init l D cM cG cI cJ o (fun _ => 0) (fun _ => 0) (fun _ _ => 0) (fun _ => 0) _ (cz_I L xs)) ⟨kc_T_init, kn_T, k_L_55, ki_T_init⟩ rfl (by decide +kernel) ⟨rfl, rfl, Nat.le_of_ble_eq_true rfl, Nat.le_of_ble_eq_true rfl⟩ x_0 (yt_Y D cM cG cI cJ) hY trivial hP (wk_T hD) hS hF9 rfl hl.1 rfl (Nat.le_of_ble_eq_true rfl) d_L_law_9 ⟨Nat.le_of_ble_eq_true rfl, Nat.le_of_ble_eq_true rfl⟩ (fun u H1 locs1 hw9 hP1 hD1 hz9 hk9 hS1 => ?_)
  obtain ⟨am, ag⟩ := u
  have hP2 := hP1
  have hD2 := wk_D hD1 hF9
  clear hP1 hD1 hF9 hk9 hz9 hw9
  have hP : va_P D cl_L (ws_C cM cG o am ag (fun _ => 0) (fun _ => 0) (of_I (cz_I L xs), 0, 0, 0, (fun _ _ => 0), (fun _ => 0))) H1 := hP2
  have hD : va_D A (ws_C cM cG o am ag (fun _ => 0) (fun _ => 0) (of_I (cz_I L xs), 0, 0, 0, (fun _ _ => 0), (fun _ => 0))) := hD2
  clear hP2 hD2
  have hS := hS1
  clear hS1
  refine lv_astore_n (lv' := [(1, .ref o), (0, .ref b)]) hx hb d_L_law_12 rfl hl (by decide) rfl (fun ls hl => ?_)
  refine va_new (ci := 3) (fs := [.int 0, .int 0, .int 0, .int 0, .int 0, .null, .null, .null, .null, .null, .null, .null, .null, .null, .null, .null, .null, .null, .null, .null, .null, .null, .null, .null, .null]) (C := R_N) (T := F_N) (N := 25) hx hb htw uw_N ft_N tk_N hown (htw _ k_L_58) (htw _ kb_N) (htw _ kn_N) hK hP hD hS hA rfl (fun j hj => by rcases (show j = 0 ∨ j = 1 ∨ j = 2 ∨ j = 3 ∨ j = 4 ∨ j = 5 ∨ j = 6 ∨ j = 7 ∨ j = 8 ∨ j = 9 ∨ j = 10 ∨ j = 11 ∨ j = 12 ∨ j = 13 ∨ j = 14 ∨ j = 15 ∨ j = 16 ∨ j = 17 ∨ j = 18 ∨ j = 19 ∨ j = 20 ∨ j = 21 ∨ j = 22 ∨ j = 23 ∨ j = 24 by omega) with rfl | rfl | rfl | rfl | rfl | rfl | rfl | rfl | rfl | rfl | rfl | rfl | rfl | rfl | rfl | rfl | rfl | rfl | rfl | rfl | rfl | rfl | rfl | rfl | rfl <;> rfl) (Nat.le_of_ble_eq_true rfl) (Nat.le_of_ble_eq_true rfl) d_L_law_13 (fun r H hP2 hD2 hS => ?_)
  have hP : va_P D cl_L (ws_C cM cG o am ag (fun _ => 0) (fun _ => 0) (of_I (cz_I L xs), 0, 0, 0, (fun _ _ => 0), (fun _ => 0)) ++ [(r, .inr (3, [.int 0, .int 0, .int 0, .int 0, .int 0, .null, .null, .null, .null, .null, .null, .null, .null, .null, .null, .null, .null, .null, .null, .null, .null, .null, .null, .null, .null]))]) H := hP2
  have hD : va_D A (ws_C cM cG o am ag (fun _ => 0) (fun _ => 0) (of_I (cz_I L xs), 0, 0, 0, (fun _ _ => 0), (fun _ => 0)) ++ [(r, .inr (3, [.int 0, .int 0, .int 0, .int 0, .int 0, .null, .null, .null, .null, .null, .null, .null, .null, .null, .null, .null, .null, .null, .null, .null, .null, .null, .null, .null, .null]))]) := hD2
  clear hP2 hD2
  refine lv_dup hx hb d_L_law_16 rfl ?_
  refine lv_aload_n hx hb d_L_law_17 rfl (lv_at hl 1 rfl) ?_
  refine lv_iconst (v := 0) hx hb d_L_law_18 (by decide) ?_
  refine cp_S (n := 2) [.ref b, .int 0] hC (t_L_cell l D cM cG cI cJ b L xs hL) ⟨kc_L_cell, kn_L, k_L_49, ks_L_cell⟩ (by decide +kernel) ⟨rfl, rfl, Nat.le_of_ble_eq_true rfl, Nat.le_of_ble_eq_true rfl⟩ va_X_X (yt_Y D cM cG cI cJ) hY (hX.kept (hS.2.1 b hbl hbA)) rfl hl.1 rfl (Nat.le_of_ble_eq_true rfl) d_L_law_19 ⟨Nat.le_of_ble_eq_true rfl, Nat.le_of_ble_eq_true rfl⟩ (fun r9 h9 => ?_)
  rw [h9]
  clear h9 r9
  have hPa : va_P D cl_L ([(r, .inr (3, [.int 0, .int 0, .int 0, .int 0, .int 0, .null, .null, .null, .null, .null, .null, .null, .null, .null, .null, .null, .null, .null, .null, .null, .null, .null, .null, .null, .null]))] ++ ws_C cM cG o am ag (fun _ => 0) (fun _ => 0) (of_I (cz_I L xs), 0, 0, 0, (fun _ _ => 0), (fun _ => 0))) H := wk_sw hP
  have hDa : va_D A ([(r, .inr (3, [.int 0, .int 0, .int 0, .int 0, .int 0, .null, .null, .null, .null, .null, .null, .null, .null, .null, .null, .null, .null, .null, .null, .null, .null, .null, .null, .null, .null]))] ++ ws_C cM cG o am ag (fun _ => 0) (fun _ => 0) (of_I (cz_I L xs), 0, 0, 0, (fun _ _ => 0), (fun _ => 0))) := wk_swD hD
  have hF9 := wk_F (wk_LD hDa) hS hA
  refine cm_I (n := 1) [.int (cz_I L xs)] hC (t_N_init l D cM cG cI cJ r _ (cz_I L xs)) ⟨kc_N_init, kn_N, k_L_60, ki_N_init⟩ rfl (by decide +kernel) ⟨rfl, rfl, Nat.le_of_ble_eq_true rfl, Nat.le_of_ble_eq_true rfl⟩ x_0 (yt_Y D cM cG cI cJ) hY trivial (wk_L hPa) (wk_T (wk_LD hDa)) hS hF9 rfl hl.1 rfl (Nat.le_of_ble_eq_true rfl) d_L_law_22 ⟨Nat.le_of_ble_eq_true rfl, Nat.le_of_ble_eq_true rfl⟩ (fun u H1 locs1 hw9 hP1 hD1 hz9 hk9 hS1 => ?_)
  obtain ⟨rr, ra⟩ := u
  obtain ⟨hP2, hD2⟩ := jn_L hPa hDa hk9 hF9 hP1 hD1
  replace hP2 := wk_sw hP2
  replace hD2 := wk_swD hD2
  clear hPa hDa hP1 hD1 hF9 hk9 hz9 hw9
  have hP : va_P D cl_L (ws_C cM cG o am ag (fun _ => 0) (fun _ => 0) (of_I (cz_I L xs), 0, 0, 0, (fun _ _ => 0), (fun _ => 0)) ++ ws_N cI r rr ra 0 (fun _ => 0) (of_I (cz_I L xs), 0, 0, 0, (fun _ _ => 0), (fun _ => 0))) H1 := hP2
  have hD : va_D A (ws_C cM cG o am ag (fun _ => 0) (fun _ => 0) (of_I (cz_I L xs), 0, 0, 0, (fun _ _ => 0), (fun _ => 0)) ++ ws_N cI r rr ra 0 (fun _ => 0) (of_I (cz_I L xs), 0, 0, 0, (fun _ _ => 0), (fun _ => 0))) := hD2
  clear hP2 hD2
  have hS := hS1
  clear hS1
  refine lv_astore_n (lv' := [(2, .ref r), (1, .ref o), (0, .ref b)]) hx hb d_L_law_25 rfl hl (by decide) rfl (fun ls hl => ?_)
  refine lv_iconst (v := 1) hx hb d_L_law_26 (by decide) ?_
  refine va_newa (N' := 1) (atype := .long) (ty := .long) (a0 := (1, .inr (.inl (fun _ => 0)))) hx hb (htw _ ka_long) rfl hK hP hD hS hA (fun _ => rfl) (by decide) rfl (by decide) (Nat.le_of_ble_eq_true rfl) (Nat.le_of_ble_eq_true rfl) d_L_law_27 (fun q cA H hK9 hP2 hD2 hS => ?_)
  have hcA : cA = cJ := Option.some.inj (Eq.trans (Eq.symm (show s.vm.findClass ("[" ++ FieldType.long.toString) = some cA from (hK9.2 4 _ rfl).2)) (show s.vm.findClass ("[" ++ FieldType.long.toString) = some cJ from (hK.2 3 _ rfl).2))
  rw [hcA] at hP2 hD2
  replace hP2 := wk_sw hP2
  replace hD2 := wk_swD hD2
  have hP : va_P D cl_L ((q, .inl (cJ, 1, .inr (.inl (fun _ => 0)))) :: (ws_C cM cG o am ag (fun _ => 0) (fun _ => 0) (of_I (cz_I L xs), 0, 0, 0, (fun _ _ => 0), (fun _ => 0)) ++ ws_N cI r rr ra 0 (fun _ => 0) (of_I (cz_I L xs), 0, 0, 0, (fun _ _ => 0), (fun _ => 0)))) H := hP2
  have hD : va_D A ((q, .inl (cJ, 1, .inr (.inl (fun _ => 0)))) :: (ws_C cM cG o am ag (fun _ => 0) (fun _ => 0) (of_I (cz_I L xs), 0, 0, 0, (fun _ _ => 0), (fun _ => 0)) ++ ws_N cI r rr ra 0 (fun _ => 0) (of_I (cz_I L xs), 0, 0, 0, (fun _ _ => 0), (fun _ => 0)))) := hD2
  clear hP2 hD2
  refine lv_astore_n (lv' := [(3, .ref q), (2, .ref r), (1, .ref o), (0, .ref b)]) hx hb d_L_law_29 rfl hl (by decide) rfl (fun ls hl => ?_)
  refine lv_iconst (v := 1) hx hb d_L_law_30 (by decide) ?_
  refine lv_istore (lv' := [(4, .int 1), (3, .ref q), (2, .ref r), (1, .ref o), (0, .ref b)]) hx hb d_L_law_31 hl (by decide) rfl (fun ls hl => ?_)
  refine W.widen (k := 25 + 200 * 0) (n := 3432 + 1400 * 0) (by decide) (by decide) ?_
  exact law_L l hl0 hL C0 D cM cG cI cJ hY A hAe hXs hXa o am ag r rr ra q 513 1 0 0 (of_I (cz_I L xs)) 0 0 0 (fun _ _ => 0) (fun _ => 0) (fun _ => 0) (fun _ => 0) 0 (fun _ => 0) (fun _ => 0) _ _ _ (by decide) rfl (by decide) (kp_0 (cz_I L xs)) (fun i hi => absurd hi (Nat.not_lt_zero i)) hP hD hS (lv_sub hl [4, 3, 2, 1, 0] rfl)
theorem lw_nt {l : Launch} (h : l.flags = flags0) : l.stackTraces = false := by
  unfold Launch.stackTraces
  rw [h]
  decide
set_option maxHeartbeats 4000000 in
theorem lw_walk (l : Launch) (hl0 : l.stackTraces = false) (b : Addr) (xs : List Int32) : MetFree l x (headSpec (Jvm.Cond.code x code maxLocals ret :: tables_1) room_1) (lw_P b xs) (fun _ _ _ _ _ => True) lw_Q := by
  refine MetFree.of_bodyS (code := code) (maxLocals := maxLocals) (ret := ret) (by decide) ?_ ?_
  · intro args s m h hn
    obtain ⟨meth, c, h1, h2, h3, h4, h5, h6, -, -⟩ := Cond.code_spec hn (atoms_spec (ws := Jvm.Cond.code x code maxLocals ret :: tables_1) h _ List.mem_cons_self)
    exact ⟨meth, c, h1, h2, h3, h4, h5, h6⟩
  · intro p e s m args below meth c s₁ B hml0 hP _
    obtain ⟨rfl, hx, hbd, hgv⟩ := hP
    obtain ⟨scr, harrAt, hlist, hof, hsmall⟩ := hx
    obtain ⟨hcb, hkn, -, -⟩ := State.arrayAt?_spec harrAt
    have hown : s.vm.findClass R_law = some m.cls := findClass_of_methodNamed B.named
    have hts0 : ∀ c ∈ (Jvm.Cond.code x code maxLocals ret :: tables_1), c.before #[Value.ref b] s = true := atoms_spec (ws := Jvm.Cond.code x code maxLocals ret :: tables_1) B.pre
    have hts : ∀ w ∈ lw_tbl, w.before #[Value.ref b] s = true := k2_hts_sels lw_privs (fun w hw => hts0 w (List.mem_cons_of_mem _ hw)) lw_privs_ok
    have hml : c.maxLocals = 7 := B.maxLocals_eq (hts0 _ List.mem_cons_self)
    have X₀ : Stand p l e room_1 s m #[Value.ref b] below meth c s₁ [] 0 0 := Stand.of_body B
    have hh0 : s₁.heap = s.heap := by rw [B.state]; rfl
    have hsz : scr.slots.size = xs.length := by rw [← Array.length_toList, hlist, List.length_map]
    have hval : ∀ j : Nat, j < xs.length → scr.slots[j]? = some (.int (xs.getD j 0)) := fun j hj => by
      rw [← Array.getElem?_toList, hlist]
      simp [hj]
    have hbl : b < s.heap.size := (Array.getElem?_eq_some_iff.mp hcb).1
    have hX : va_X b xs.length (fun j => xs.getD j 0) s s.heap := ⟨scr, hcb, hof, hkn, hsz, hval⟩
    have K : W p l e room_1 s m #[Value.ref b] below meth c s₁.heap [] 0 0 (lw_Z below #[Value.ref b] s) (entryFrame m ([Value.ref b] : List Value).toArray 7) := by
      rw [hh0]
      exact whole_start l hl0 hbd ⟨B.exec, B.bytes, B.returns, hml, hown, hts, hX, hbl, B.notSynchronized, hgv⟩
    obtain ⟨t, a1, o, b1, b2, b3⟩ := K s₁ rfl X₀
    exact ⟨t, o, a1, b1, b2, b3⟩
theorem lw_pre_spec {args : Array Value} {s : State} (h : (Jvm.Cond.and given_1 narrow_1).before args s = true) (hr : rest_1_c.before args s = true) : ∃ (b : Addr) (xs : List Int32), lw_P b xs args s := by
  have hs := flat_of_before _ h
  have hq := flat_of_before _ hr
  have hc : (Cond.count 1).before args s = true := hs _ (by decide +kernel)
  have harr : (Cond.arrayOf (.arg 0) .int).before args s = true := hs _ (by decide +kernel)
  have hle : (Cond.le (.length (.arg 0)) (.int 3585)).before args s = true := hs _ (by decide +kernel)
  have hlen : (Cond.isInt (.length (.arg 0))).before args s = true := hq _ (by decide +kernel)
  have hall : (Cond.all (.arg 0) (.isInt (.elem (.arg 0) (.index 0)))).before args s = true := hq _ (by decide +kernel)
  obtain ⟨b, xs, hb, hx⟩ := State.ints_of_pre rfl harr hlen hall
  have hsm : xs.length < 2 ^ 31 := hx.choose_spec.2.2.2
  have hev : (Term.length (.arg 0)).eval args s none [] s = some (.int xs.length.toInt32) := hx.length_eval hb
  have hv := Cond.le_ints hev (show (Term.int 3585).eval args s none [] s = some (.int 3585) from rfl)
  have hd : xs.length.toInt32 ≤ 3585 := by
    simpa [Cond.before, Cond.holds, hv] using hle
  have hN : xs.length ≤ 3585 := (Int32.ofNat_le_ofNat hsm (by decide)).mp (show Int32.ofNat xs.length ≤ Int32.ofNat 3585 from hd)
  exact ⟨b, xs, Cond.one_arg hc (show args[0]? = some (.ref b) from hb), hx, hN, h⟩
theorem lw_comes (l : Launch) (hl0 : l.stackTraces = false) : Comes l x (Jvm.Cond.code x code maxLocals ret :: tables_1) room_1 (fun tb e args s => Calls_1 tb e args s ∧ rest_1 tb e args s ∧ Pre_1 tb e args s)
    (fun _ _ args s o t => lw_Q args s o t) := by
  intro p e ha hc hk s m args below hf hfit hheap happ hpre
  obtain ⟨b, xs, hP⟩ := lw_pre_spec hpre.2.2 hpre.2.1
  obtain ⟨k, o, h1, h2, h3, hQ⟩ := lw_walk l hl0 b xs p e ha hc hk s m args below hf ((Spec.applies_iff_loose hf).mp happ).1 hP trivial
  exact ⟨k, o, h1, h2, h3, hQ⟩
theorem lw_frame {s t : State} {o : Outcome} {args : Array Value} (h : Framed s o t [] room_1.cells room_1.slots) :
    Framed s o t (fieldLocs frame_1_writes args s ++ arrayLocs frame_1_arrays args s ++ staticLocs frame_1_statics s) room_1.cells room_1.slots := h
theorem lw_limb (L : Cond) (hL : ∀ (args : Array Value) (s t : State), L.after args s (.returned (some (.int 1))) t = true) :
    ArmFor flags0 classFile x code maxLocals ret World_1 tables_1 room_1 Calls_1 rest_1 Pre_1
      (fun tb e a s o t => postC L tb e a s o t ∧ Framed s o t (fieldLocs frame_1_writes a s ++ arrayLocs frame_1_arrays a s ++ staticLocs frame_1_statics s) room_1.cells room_1.slots) := by
  intro l hfl _ _ p e ha hc hk s m args below hf hfit hheap happ hpre
  obtain ⟨k, o, h1, h2, h3, rfl, hF⟩ := lw_comes l (lw_nt hfl) p e ha hc hk s m args below hf hfit hheap happ hpre
  exact ⟨k, _, h1, h2, h3, hL args s _, lw_frame hF⟩
theorem i_vc : Claimed_1_1 ∧ Claimed_1_2 := ⟨lw_limb limb_1_1 (fun args s t => by simp [limb_1_1, Cond.after, Cond.holds, Cond.value]), lw_limb limb_1_2 (fun args s t => Cond.after_iff.mpr (by
  first | (rw [show limb_1_2 = Cond.eq .result (.int 1) from rfl, Cond.eq_ints (x := 1) (y := 1) rfl rfl]; simp; done) | (simp [limb_1_2, Cond.value, Term.eval]; done)))⟩
