-- CALLS, in short: every contract carries the words tw_L
abbrev mu_P (D : va_G) (ws : va_W) (sz : Nat) (X : State → Heap → Prop) (Y : State → Prop) (av : List Value) : Array Value → State → Prop := va_Pc av (fun U => U.heap.size = sz ∧ va_P D cl_L ws U.heap ∧ va_D (fun _ => True) ws ∧ X U U.heap ∧ Y U)
abbrev pu_P (X : State → Heap → Prop) (Y : State → Prop) (av : List Value) : Array Value → State → Prop := va_Pc av (fun U => X U U.heap ∧ Y U)
abbrev mu_B (D : va_G) (ws : va_W) (sz : Nat) {S : Type} (wsn : S → va_W) : S → State → Prop := fun u t => va_P D cl_L (wsn u) t.heap ∧ va_D (va_A ws sz) (wsn u)
abbrev no_A : Addr → Prop := fun _ => False
abbrev wd_M (y : MethodName) (n : Nat) : Prop := y.cls ≠ "java/lang/invoke/MethodHandle" ∧ y.cls ≠ "java/lang/invoke/VarHandle" ∧ (parseMethodDescriptor y.desc).map (fun d => d.parameters.length) = some n
abbrev wd_V (own : String) (idx : Nat) (C : String) (y : MethodName) (bytes : ByteArray) (mL : Nat) (ret : Option FieldType) : Prop := Cond.code y bytes mL ret ∈ tw_L ∧ Cond.initialized y.cls ∈ tw_L ∧ Cond.methodLink own idx y ∈ tw_L ∧ Cond.instanceMethod y ∈ tw_L ∧ Cond.selects C y y ∈ tw_L
abbrev wd_I (own : String) (idx : Nat) (y : MethodName) (bytes : ByteArray) (mL : Nat) : Prop := Cond.code y bytes mL none ∈ tw_L ∧ Cond.initialized y.cls ∈ tw_L ∧ Cond.methodLink own idx y ∈ tw_L ∧ Cond.instanceMethod y ∈ tw_L
abbrev wd_S (own : String) (idx : Nat) (y : MethodName) (bytes : ByteArray) (mL : Nat) (ret : Option FieldType) : Prop := Cond.code y bytes mL ret ∈ tw_L ∧ Cond.initialized y.cls ∈ tw_L ∧ Cond.methodLink own idx y ∈ tw_L ∧ Cond.static y ∈ tw_L
abbrev wd_R (R rm : Room) (mL mc ms : Nat) : Prop := rm.cells = mc ∧ rm.slots = ms ∧ rm.frames + 1 ≤ R.frames ∧ 8 + (mL + 11) + rm.locals ≤ R.locals
def is_X (X : State → Heap → Prop) : Prop := ∀ (u U : State) (H : Heap), u.WarmedH U.vm → X u H → X U H
theorem x_0 {X : Heap → Prop} : is_X (fun _ => X) := fun _ _ _ _ h => h
def is_Y (Y : State → Prop) : Prop := ∀ u U : State, u.WarmedH U.vm → Y u → Y U
section CX
variable {p : Program} {l : Launch} {e : Env} {R : Room} {s : State} {m : MethodId} {args : Array Value} {below : List Frame} {meth : Method} {c : Code} {H : Heap} {locs : List Loc} {cells slots : Nat} {Q : State → Prop}
variable {cc : ByteArray} {pc nL : Nat} {ls : Array Slot} {rest st0 : List Value} {own : String}
theorem sk_as {x y : Int32} (h : x = y) (k : W p l e R s m args below meth c H locs cells slots Q (F0 m pc ls (.int y :: rest))) : W p l e R s m args below meth c H locs cells slots Q (F0 m pc ls (.int x :: rest)) := by rw [h]; exact k
theorem cx_G {y : MethodName} {bytes : ByteArray} {mL : Nat} {ret : Option FieldType} (hc : Cond.code y bytes mL ret ∈ tw_L) : GoodIn tw_L (Cond.code y bytes mL ret :: tw_L) := fun w hw => (List.mem_cons.mp hw).elim (fun q => by subst q; exact ⟨hc, tw_gd hc⟩) (fun h => ⟨h, tw_gd h⟩)
theorem cx_B {y : MethodName} {bytes : ByteArray} {mL : Nat} {ret : Option FieldType} {rm : Room} {mc ms n idx : Nat} (htw : ∀ w ∈ tw_L, w.before args s = true) (hc : Cond.code y bytes mL ret ∈ tw_L) (hn : Cond.initialized y.cls ∈ tw_L) (hk : Cond.methodLink own idx y ∈ tw_L) (hd : wd_M y n) (hR : wd_R R rm mL mc ms) : CallB R s args own idx y bytes mL ret (Cond.code y bytes mL ret :: tw_L) rm mc ms n :=
  callB_of n htw (cx_G hc) rfl hR.1 hR.2.1 (htw _ hn) (htw _ hk) hd hR.2.2
theorem pu_bl {X : State → Heap → Prop} {Y : State → Prop} {av : List Value} (hXs : is_X X) (hY : is_Y Y) : FrameBlind (pu_P X Y av) := fun a U g mk q => ⟨q.1, hXs U (U.calling g mk a) _ (State.WarmedH.refl U) q.2.1, hY U (U.calling g mk a) (State.WarmedH.refl U) q.2.2⟩
theorem mu_bl {D : va_G} {ws : va_W} {sz : Nat} {X : State → Heap → Prop} {Y : State → Prop} {av : List Value} (hXs : is_X X) (hY : is_Y Y) : FrameBlind (mu_P D ws sz X Y av) := fun a U g mk q => ⟨q.1, q.2.1, q.2.2.1, q.2.2.2.1, hXs U (U.calling g mk a) _ (State.WarmedH.refl U) q.2.2.2.2.1, hY U (U.calling g mk a) (State.WarmedH.refl U) q.2.2.2.2.2⟩
theorem pu_at {X : State → Heap → Prop} {Y : State → Prop} {av : List Value} (hXs : is_X X) (hY : is_Y Y) (h : Y s) (hX : X s H) : ∀ U : State, U.heap = H → s.WarmedH U.vm → pu_P X Y av av.toArray U := fun U hU hW => ⟨rfl, by rw [hU]; exact hXs s U H hW hX, hY s U hW h⟩
theorem mu_at {D : va_G} {ws : va_W} {X : State → Heap → Prop} {Y : State → Prop} {av : List Value} (hXs : is_X X) (hY : is_Y Y) (h : Y s) (hX : X s H) (hP : va_P D cl_L ws H) (hD : va_D (fun _ => True) ws) : ∀ U : State, U.heap = H → s.WarmedH U.vm → mu_P D ws H.size X Y av av.toArray U := fun U hU hW => ⟨rfl, by rw [hU], by rw [hU]; exact hP, hD, by rw [hU]; exact hXs s U H hW hX, hY s U hW h⟩
abbrev is_rc (s : State) (H : Heap) (C : String) (b : Addr) : Prop := ∃ cellB : Cell, H[b]? = some cellB ∧ cellB.vm.isStatics = false ∧ s.vm.findClass C = some cellB.cls
/-- a pure call of an instance's method, int answer -/
theorem cp_V {y : MethodName} {bytes : ByteArray} {mL n idx : Nat} {ret : Option FieldType} {rm : Room} {X : State → Heap → Prop} {Y : State → Prop} {post : Int32 → Prop} {C : String} {b : Addr} (As : List Value) (hC : CallFix p m c cc nL s args tw_L own)
    (hM : Met l y (Cond.code y bytes mL ret :: tw_L) rm (pu_P X Y (.ref b :: As)) (vp_Si post) 0 0 no_A) (hw : wd_V own idx C y bytes mL ret) (hd : wd_M y n) (hR : wd_R R rm mL 0 0) (hXs : is_X X) (hY : is_Y Y) (h : Y s) (hX : X s H) (hr : is_rc s H C b)
    (hn : As.length = n) (hl : ls.size = nL) (hst : st0 = As.reverse ++ .ref b :: rest) (hrs : (rest.map fun v => v.category).sum ≤ 8) (hdg : decode cc pc = .ok (.invokevirtual idx, 3)) (hf : cells + 0 ≤ R.cells ∧ slots + 0 ≤ R.slots)
    (kk : ∀ r : Int32, post r → W p l e R s m args below meth c H locs cells slots Q (F0 m (pc + 3) ls (.int r :: rest))) : W p l e R s m args below meth c H locs cells slots Q (F0 m pc ls st0) := by
  subst hst
  exact vp_callSi (va_Run.run (va_runV (As := As) (rest := rest) hC hM ⟨cx_B hC.2.2.2.2 hw.1 hw.2.1 hw.2.2.1 hd hR, hC.2.2.2.2 _ hw.2.2.2.1, hC.2.2.2.2 _ hw.2.2.2.2⟩ ⟨pu_bl hXs hY, hr, pu_at hXs hY h hX⟩ rfl hn hl rfl (lv_room hrs) hdg hf)) kk
/-- a pure call of a static method, int answer -/
theorem cp_S {y : MethodName} {bytes : ByteArray} {mL n idx : Nat} {ret : Option FieldType} {rm : Room} {X : State → Heap → Prop} {Y : State → Prop} {post : Int32 → Prop} (As : List Value) (hC : CallFix p m c cc nL s args tw_L own)
    (hM : Met l y (Cond.code y bytes mL ret :: tw_L) rm (pu_P X Y As) (vp_Si post) 0 0 no_A) (hw : wd_S own idx y bytes mL ret) (hd : wd_M y n) (hR : wd_R R rm mL 0 0) (hXs : is_X X) (hY : is_Y Y) (h : Y s) (hX : X s H)
    (hn : As.length = n) (hl : ls.size = nL) (hst : st0 = As.reverse ++ rest) (hrs : (rest.map fun v => v.category).sum ≤ 8) (hdg : decode cc pc = .ok (.invokestatic idx, 3)) (hf : cells + 0 ≤ R.cells ∧ slots + 0 ≤ R.slots)
    (kk : ∀ r : Int32, post r → W p l e R s m args below meth c H locs cells slots Q (F0 m (pc + 3) ls (.int r :: rest))) : W p l e R s m args below meth c H locs cells slots Q (F0 m pc ls st0) := by
  subst hst
  exact vp_callSi (va_Run.run (va_runS (As := As) (rest := rest) hC hM ⟨cx_B hC.2.2.2.2 hw.1 hw.2.1 hw.2.2.1 hd hR, hC.2.2.2.2 _ hw.2.2.2⟩ ⟨pu_bl hXs hY, pu_at hXs hY h hX⟩ rfl hn hl rfl (lv_room hrs) hdg hf)) kk
/-- a pure call of a nest mate's private static method -/
theorem cp_SN {y : MethodName} {bytes : ByteArray} {mL n idx : Nat} {ret : Option FieldType} {host : String} {rm : Room} {X : State → Heap → Prop} {Y : State → Prop} {post : Int32 → Prop} (As : List Value) (hC : CallFix p m c cc nL s args tw_L own)
    (hM : Met l y (Cond.code y bytes mL ret :: tw_L) rm (pu_P X Y As) (vp_Si post) 0 0 no_A) (hw : Cond.code y bytes mL ret ∈ tw_L ∧ Cond.initialized y.cls ∈ tw_L ∧ Cond.static y ∈ tw_L) (hk : va_Nw (.methodLinkNest own idx y host) s) (hd : wd_M y n) (hR : wd_R R rm mL 0 0) (hXs : is_X X) (hY : is_Y Y) (h : Y s) (hX : X s H)
    (hn : As.length = n) (hl : ls.size = nL) (hst : st0 = As.reverse ++ rest) (hrs : (rest.map fun v => v.category).sum ≤ 8) (hdg : decode cc pc = .ok (.invokestatic idx, 3)) (hf : cells + 0 ≤ R.cells ∧ slots + 0 ≤ R.slots)
    (kk : ∀ r : Int32, post r → W p l e R s m args below meth c H locs cells slots Q (F0 m (pc + 3) ls (.int r :: rest))) : W p l e R s m args below meth c H locs cells slots Q (F0 m pc ls st0) := by
  subst hst
  exact vp_callSi (va_Run.run (va_runSN (As := As) (rest := rest) hC hM ⟨va_cnB n hC.2.2.2.2 (cx_G hw.1) rfl hR.1 hR.2.1 hk (hC.2.2.2.2 _ hw.2.1) hd hR.2.2, hC.2.2.2.2 _ hw.2.2, trivial⟩ ⟨pu_bl hXs hY, pu_at hXs hY h hX⟩ rfl hn hl rfl (lv_room hrs) hdg hf)) kk
/-- a pure call of an instance's method, a reference or null -/
theorem cp_Q {y : MethodName} {bytes : ByteArray} {mL n idx : Nat} {ret : Option FieldType} {rm : Room} {X : State → Heap → Prop} {Y : State → Prop} {post : Option Nat → Prop} {C : String} {b : Addr} (As : List Value) (hC : CallFix p m c cc nL s args tw_L own)
    (hM : Met l y (Cond.code y bytes mL ret :: tw_L) rm (pu_P X Y (.ref b :: As)) (va_Sq post) 0 0 no_A) (hw : wd_V own idx C y bytes mL ret) (hd : wd_M y n) (hR : wd_R R rm mL 0 0) (hXs : is_X X) (hY : is_Y Y) (h : Y s) (hX : X s H) (hr : is_rc s H C b)
    (hn : As.length = n) (hl : ls.size = nL) (hst : st0 = As.reverse ++ .ref b :: rest) (hrs : (rest.map fun v => v.category).sum ≤ 8) (hdg : decode cc pc = .ok (.invokevirtual idx, 3)) (hf : cells + 0 ≤ R.cells ∧ slots + 0 ≤ R.slots)
    (kk : ∀ r : Option Nat, post r → W p l e R s m args below meth c H locs cells slots Q (F0 m (pc + 3) ls (va_rf r :: rest))) : W p l e R s m args below meth c H locs cells slots Q (F0 m pc ls st0) := by
  subst hst
  exact va_csq (va_Run.run (va_runV (As := As) (rest := rest) hC hM ⟨cx_B hC.2.2.2.2 hw.1 hw.2.1 hw.2.2.1 hd hR, hC.2.2.2.2 _ hw.2.2.2.1, hC.2.2.2.2 _ hw.2.2.2.2⟩ ⟨pu_bl hXs hY, hr, pu_at hXs hY h hX⟩ rfl hn hl rfl (lv_room hrs) hdg hf)) kk
/-- a call that changes the cells wc -/
theorem cm_V {y : MethodName} {bytes : ByteArray} {mL n idx mc ms : Nat} {ret : Option FieldType} {rm : Room} {D : va_G} {wc : va_W} {X : State → Heap → Prop} {Y : State → Prop} {S : Type} {post : S → Prop} {wsn : S → va_W} {A0 : Nat → Prop} {C : String} {b : Addr} (As : List Value) (hC : CallFix p m c cc nL s args tw_L own)
    (hM : Met l y (Cond.code y bytes mL ret :: tw_L) rm (mu_P D wc H.size X Y (.ref b :: As)) (va_Qv post (mu_B D wc H.size wsn) (va_A wc H.size)) mc ms (va_A wc H.size)) (hw : wd_V own idx C y bytes mL ret) (hd : wd_M y n) (hR : wd_R R rm mL mc ms) (hXs : is_X X) (hY : is_Y Y) (h : Y s) (hX : X s H) (hr : is_rc s H C b)
    (hPc : va_P D cl_L wc H) (hDc : va_D (fun _ => True) wc) (hS : va_S A0 s.heap H locs) (hF : ∀ q, va_A wc H.size q → A0 q)
    (hn : As.length = n) (hl : ls.size = nL) (hst : st0 = As.reverse ++ .ref b :: rest) (hrs : (rest.map fun v => v.category).sum ≤ 8) (hdg : decode cc pc = .ok (.invokevirtual idx, 3)) (hf : cells + mc ≤ R.cells ∧ slots + ms ≤ R.slots)
    (kk : ∀ (u : S) (H1 : Heap) (locs1 : List Loc), post u → va_P D cl_L (wsn u) H1 → va_D (va_A wc H.size) (wsn u) → H.size ≤ H1.size → (∀ q : Nat, q < H.size → ¬ va_A wc H.size q → H1[q]? = H[q]?) → va_S A0 s.heap H1 locs1 → W p l e R s m args below meth c H1 locs1 (cells + mc) (slots + ms) Q (F0 m (pc + 3) ls rest)) : W p l e R s m args below meth c H locs cells slots Q (F0 m pc ls st0) := by
  subst hst
  exact va_callv (va_runV (As := As) (rest := rest) hC hM ⟨cx_B hC.2.2.2.2 hw.1 hw.2.1 hw.2.2.1 hd hR, hC.2.2.2.2 _ hw.2.2.2.1, hC.2.2.2.2 _ hw.2.2.2.2⟩ ⟨mu_bl hXs hY, hr, mu_at hXs hY h hX hPc hDc⟩ rfl hn hl rfl (lv_room hrs) hdg hf) hS (fun q _ hq => hF q hq) hF
    (fun u t H1 locs1 ht _ hp hB hz hk hS1 => kk u H1 locs1 hp (by rw [← ht]; exact hB.1) hB.2 hz hk hS1)
theorem cm_Vi {y : MethodName} {bytes : ByteArray} {mL n idx mc ms : Nat} {ret : Option FieldType} {rm : Room} {D : va_G} {wc : va_W} {X : State → Heap → Prop} {Y : State → Prop} {S : Type} {post : Int32 → S → Prop} {wsn : S → va_W} {A0 : Nat → Prop} {C : String} {b : Addr} (As : List Value) (hC : CallFix p m c cc nL s args tw_L own)
    (hM : Met l y (Cond.code y bytes mL ret :: tw_L) rm (mu_P D wc H.size X Y (.ref b :: As)) (va_Qi post (mu_B D wc H.size wsn) (va_A wc H.size)) mc ms (va_A wc H.size)) (hw : wd_V own idx C y bytes mL ret) (hd : wd_M y n) (hR : wd_R R rm mL mc ms) (hXs : is_X X) (hY : is_Y Y) (h : Y s) (hX : X s H) (hr : is_rc s H C b)
    (hPc : va_P D cl_L wc H) (hDc : va_D (fun _ => True) wc) (hS : va_S A0 s.heap H locs) (hF : ∀ q, va_A wc H.size q → A0 q)
    (hn : As.length = n) (hl : ls.size = nL) (hst : st0 = As.reverse ++ .ref b :: rest) (hrs : (rest.map fun v => v.category).sum ≤ 8) (hdg : decode cc pc = .ok (.invokevirtual idx, 3)) (hf : cells + mc ≤ R.cells ∧ slots + ms ≤ R.slots)
    (kk : ∀ (r : Int32) (u : S) (H1 : Heap) (locs1 : List Loc), post r u → va_P D cl_L (wsn u) H1 → va_D (va_A wc H.size) (wsn u) → H.size ≤ H1.size → (∀ q : Nat, q < H.size → ¬ va_A wc H.size q → H1[q]? = H[q]?) → va_S A0 s.heap H1 locs1 → W p l e R s m args below meth c H1 locs1 (cells + mc) (slots + ms) Q (F0 m (pc + 3) ls (.int r :: rest))) : W p l e R s m args below meth c H locs cells slots Q (F0 m pc ls st0) := by
  subst hst
  exact va_calli (va_runV (As := As) (rest := rest) hC hM ⟨cx_B hC.2.2.2.2 hw.1 hw.2.1 hw.2.2.1 hd hR, hC.2.2.2.2 _ hw.2.2.2.1, hC.2.2.2.2 _ hw.2.2.2.2⟩ ⟨mu_bl hXs hY, hr, mu_at hXs hY h hX hPc hDc⟩ rfl hn hl rfl (lv_room hrs) hdg hf) hS (fun q _ hq => hF q hq) hF
    (fun r u t H1 locs1 ht _ hp hB hz hk hS1 => kk r u H1 locs1 hp (by rw [← ht]; exact hB.1) hB.2 hz hk hS1)
theorem cm_I {y : MethodName} {bytes : ByteArray} {mL n idx mc ms : Nat} {rm : Room} {D : va_G} {wc : va_W} {X : State → Heap → Prop} {Y : State → Prop} {S : Type} {post : S → Prop} {wsn : S → va_W} {A0 : Nat → Prop} {b : Addr} (As : List Value) (hC : CallFix p m c cc nL s args tw_L own)
    (hM : Met l y (Cond.code y bytes mL none :: tw_L) rm (mu_P D wc H.size X Y (.ref b :: As)) (va_Qv post (mu_B D wc H.size wsn) (va_A wc H.size)) mc ms (va_A wc H.size)) (hw : wd_I own idx y bytes mL) (hi : y.name = "<init>") (hd : wd_M y n) (hR : wd_R R rm mL mc ms) (hXs : is_X X) (hY : is_Y Y) (h : Y s) (hX : X s H)
    (hPc : va_P D cl_L wc H) (hDc : va_D (fun _ => True) wc) (hS : va_S A0 s.heap H locs) (hF : ∀ q, va_A wc H.size q → A0 q)
    (hn : As.length = n) (hl : ls.size = nL) (hst : st0 = As.reverse ++ .ref b :: rest) (hrs : (rest.map fun v => v.category).sum ≤ 8) (hdg : decode cc pc = .ok (.invokespecial idx, 3)) (hf : cells + mc ≤ R.cells ∧ slots + ms ≤ R.slots)
    (kk : ∀ (u : S) (H1 : Heap) (locs1 : List Loc), post u → va_P D cl_L (wsn u) H1 → va_D (va_A wc H.size) (wsn u) → H.size ≤ H1.size → (∀ q : Nat, q < H.size → ¬ va_A wc H.size q → H1[q]? = H[q]?) → va_S A0 s.heap H1 locs1 → W p l e R s m args below meth c H1 locs1 (cells + mc) (slots + ms) Q (F0 m (pc + 3) ls rest)) : W p l e R s m args below meth c H locs cells slots Q (F0 m pc ls st0) := by
  subst hst
  exact va_callv (va_runI (As := As) (rest := rest) hC hM ⟨cx_B hC.2.2.2.2 hw.1 hw.2.1 hw.2.2.1 hd hR, hi, hC.2.2.2.2 _ hw.2.2.2⟩ ⟨mu_bl hXs hY, mu_at hXs hY h hX hPc hDc⟩ rfl hn hl rfl (lv_room hrs) hdg hf) hS (fun q _ hq => hF q hq) hF
    (fun u t H1 locs1 ht _ hp hB hz hk hS1 => kk u H1 locs1 hp (by rw [← ht]; exact hB.1) hB.2 hz hk hS1)
end CX
-- WORLDS: lists of cells
theorem wk_D {A B : Nat → Prop} {ws : va_W} (h : va_D A ws) (hF : ∀ q, A q → B q) : va_D B ws := ⟨h.1, fun k q hk => hF _ (h.2 k q hk)⟩
theorem wk_T {A : Nat → Prop} {ws : va_W} (h : va_D A ws) : va_D (fun _ => True) ws := wk_D h (fun _ _ => trivial)
theorem wk_F {A : Nat → Prop} {ws : va_W} {H0 H : Heap} {locs : List Loc} (hD : va_D A ws) (hS : va_S A H0 H locs) (hA : ∀ q, H0.size ≤ q → A q) : ∀ q, va_A ws H.size q → A q := by
  intro q hq
  rcases hq with ⟨k, e, hk⟩ | hq
  · exact hD.2 k _ hk
  · exact hA q (Nat.le_trans hS.1 hq)
theorem wk_1 {D : va_G} {ws : va_W} {H : Heap} {k : Nat} {q : Nat × va_E} (hP : va_P D cl_L ws H) (hk : ws[k]? = some q) : va_P D cl_L [q] H := by
  intro j z hj
  cases j with
  | zero => simp at hj; subst hj; exact hP k _ hk
  | succ j => simp at hj
theorem wk_1D {A : Nat → Prop} {q : Nat × va_E} (h : A q.1) : va_D A [q] := by
  refine ⟨fun i j a b ha hb _ => ?_, fun k z hk => ?_⟩
  · cases i <;> cases j <;> simp_all
  · cases k <;> simp_all
/-- one cell was changed by a callee -/
theorem jn_1 {A0 : Nat → Prop} {D : va_G} {ws : va_W} {H H1 : Heap} {k a : Nat} {e e1 : va_E} (hP : va_P D cl_L ws H) (hD : va_D A0 ws) (hk : ws[k]? = some (a, e))
    (hu : ∀ q : Nat, q < H.size → ¬ va_A [(a, e)] H.size q → H1[q]? = H[q]?) (hP1 : va_P D cl_L [(a, e1)] H1) : va_P D cl_L (ws.set k (a, e1)) H1 ∧ va_D A0 (ws.set k (a, e1)) := by
  have hkl : k < ws.length := (List.getElem?_eq_some_iff.mp hk).1
  refine ⟨fun j q hj => ?_, fun i j p q hi hj hpq => ?_, fun j q hj => ?_⟩
  · rw [List.getElem?_set] at hj
    by_cases hkj : k = j
    · subst hkj
      simp only [if_true, hkl] at hj
      cases hj
      exact hP1 0 _ rfl
    · simp only [hkj, if_false] at hj
      have hq := hP j q hj
      refine va_at.kept hq (hu q.1 (va_at.lt hq) ?_)
      rintro (⟨n, e9, hn⟩ | hn)
      · cases n with
        | zero => simp at hn; exact hkj (hD.1 k j _ q hk hj hn.1)
        | succ n => simp at hn
      · exact absurd (va_at.lt hq) (Nat.not_lt.mpr hn)
  · have h1 : ∃ p', ws[i]? = some p' ∧ p'.1 = p.1 := by
      rw [List.getElem?_set] at hi
      by_cases hki : k = i
      · subst hki; simp only [if_true, hkl] at hi; cases hi; exact ⟨_, hk, rfl⟩
      · simp only [hki, if_false] at hi; exact ⟨p, hi, rfl⟩
    have h2 : ∃ q', ws[j]? = some q' ∧ q'.1 = q.1 := by
      rw [List.getElem?_set] at hj
      by_cases hkj : k = j
      · subst hkj; simp only [if_true, hkl] at hj; cases hj; exact ⟨_, hk, rfl⟩
      · simp only [hkj, if_false] at hj; exact ⟨q, hj, rfl⟩
    obtain ⟨p', a1, a2⟩ := h1
    obtain ⟨q', b1, b2⟩ := h2
    exact hD.1 i j p' q' a1 b1 (by rw [a2, b2]; exact hpq)
  · rw [List.getElem?_set] at hj
    by_cases hkj : k = j
    · subst hkj; simp only [if_true, hkl] at hj; cases hj; exact hD.2 k (a, e) hk
    · simp only [hkj, if_false] at hj; exact hD.2 j q hj
/-- two worlds side by side: a callee changed the first -/
theorem jn_L {A0 : Nat → Prop} {D : va_G} {wa wb wn : va_W} {H H1 : Heap} (hP : va_P D cl_L (wa ++ wb) H) (hD : va_D A0 (wa ++ wb))
    (hu : ∀ q : Nat, q < H.size → ¬ va_A wa H.size q → H1[q]? = H[q]?) (hF : ∀ q, va_A wa H.size q → A0 q) (hP1 : va_P D cl_L wn H1) (hD1 : va_D (va_A wa H.size) wn) : va_P D cl_L (wn ++ wb) H1 ∧ va_D A0 (wn ++ wb) := by
  have hb : ∀ (j : Nat) (q : Nat × va_E), wb[j]? = some q → (wa ++ wb)[wa.length + j]? = some q := fun j q h => by rw [List.getElem?_append_right (by omega)]; rw [Nat.add_sub_cancel_left]; exact h
  have hn : ∀ (j : Nat) (q : Nat × va_E), wb[j]? = some q → ¬ va_A wa H.size q.1 := by
    rintro j q hj (⟨n, e9, h9⟩ | h9)
    · have h8 : (wa ++ wb)[n]? = some (q.1, e9) := by rw [List.getElem?_append_left (List.getElem?_eq_some_iff.mp h9).1]; exact h9
      have := hD.1 n (wa.length + j) _ _ h8 (hb j q hj) rfl
      have := (List.getElem?_eq_some_iff.mp h9).1
      omega
    · exact absurd (va_at.lt (hP _ q (hb j q hj))) (Nat.not_lt.mpr h9)
  have sp : ∀ (j : Nat) (q : Nat × va_E), (wn ++ wb)[j]? = some q → (j < wn.length ∧ wn[j]? = some q) ∨ (wn.length ≤ j ∧ wb[j - wn.length]? = some q) := by
    intro j q hj
    by_cases h : j < wn.length
    · rw [List.getElem?_append_left h] at hj; exact Or.inl ⟨h, hj⟩
    · rw [List.getElem?_append_right (by omega)] at hj; exact Or.inr ⟨by omega, hj⟩
  refine ⟨fun j q hj => ?_, fun i j p q hi hj hpq => ?_, fun j q hj => ?_⟩
  · rcases sp j q hj with ⟨-, h⟩ | ⟨-, h⟩
    · exact hP1 j q h
    · have hq := hP _ q (hb _ q h)
      exact va_at.kept hq (hu q.1 (va_at.lt hq) (hn _ q h))
  · rcases sp i p hi with ⟨hi1, hi2⟩ | ⟨hi1, hi2⟩ <;> rcases sp j q hj with ⟨hj1, hj2⟩ | ⟨hj1, hj2⟩
    · exact hD1.1 i j p q hi2 hj2 hpq
    · exact absurd (hpq ▸ hD1.2 i p hi2) (hn _ q hj2)
    · exact absurd (hpq ▸ hD1.2 j q hj2) (hn _ p hi2)
    · have := hD.1 _ _ p q (hb _ p hi2) (hb _ q hj2) hpq
      omega
  · rcases sp j q hj with ⟨-, h⟩ | ⟨-, h⟩
    · exact hF _ (hD1.2 j q h)
    · exact hD.2 _ q (hb _ q h)
theorem wk_sw {D : va_G} {wa wb : va_W} {H : Heap} (h : va_P D cl_L (wa ++ wb) H) : va_P D cl_L (wb ++ wa) H := by
  intro j q hj
  by_cases hl : j < wb.length
  · rw [List.getElem?_append_left hl] at hj
    exact h (wa.length + j) q (by rw [List.getElem?_append_right (by omega), Nat.add_sub_cancel_left]; exact hj)
  · rw [List.getElem?_append_right (by omega)] at hj
    exact h (j - wb.length) q (by rw [List.getElem?_append_left (List.getElem?_eq_some_iff.mp hj).1]; exact hj)
theorem wk_swD {A : Nat → Prop} {wa wb : va_W} (h : va_D A (wa ++ wb)) : va_D A (wb ++ wa) := by
  have g : ∀ (j : Nat) (q : Nat × va_E), (wb ++ wa)[j]? = some q → ∃ k, (wa ++ wb)[k]? = some q ∧ ((j < wb.length ∧ k = wa.length + j) ∨ (wb.length ≤ j ∧ k = j - wb.length ∧ k < wa.length)) := by
    intro j q hj
    by_cases hl : j < wb.length
    · rw [List.getElem?_append_left hl] at hj
      exact ⟨wa.length + j, by rw [List.getElem?_append_right (by omega), Nat.add_sub_cancel_left]; exact hj, Or.inl ⟨hl, rfl⟩⟩
    · rw [List.getElem?_append_right (by omega)] at hj
      have := (List.getElem?_eq_some_iff.mp hj).1
      exact ⟨j - wb.length, by rw [List.getElem?_append_left this]; exact hj, Or.inr ⟨by omega, rfl, this⟩⟩
  refine ⟨fun i j p q hi hj hpq => ?_, fun j q hj => ?_⟩
  · obtain ⟨a, a1, a2⟩ := g i p hi
    obtain ⟨b, b1, b2⟩ := g j q hj
    have := h.1 a b p q a1 b1 hpq
    omega
  · obtain ⟨a, a1, -⟩ := g j q hj
    exact h.2 a q a1
theorem wk_L {D : va_G} {wa wb : va_W} {H : Heap} (h : va_P D cl_L (wa ++ wb) H) : va_P D cl_L wa H := fun j q hj => h j q (by rw [List.getElem?_append_left (List.getElem?_eq_some_iff.mp hj).1]; exact hj)
theorem wk_LD {A : Nat → Prop} {wa wb : va_W} (h : va_D A (wa ++ wb)) : va_D A wa := by
  have g : ∀ (j : Nat) (q : Nat × va_E), wa[j]? = some q → (wa ++ wb)[j]? = some q := fun j q hj => by rw [List.getElem?_append_left (List.getElem?_eq_some_iff.mp hj).1]; exact hj
  exact ⟨fun i j p q hi hj => h.1 i j p q (g i p hi) (g j q hj), fun j q hj => h.2 j q (g j q hj)⟩
