-- CALLS THAT MAY THROW, and static calls of methods with handlers
section CY
variable {p : Program} {l : Launch} {e : Env} {R : Room} {s : State} {m : MethodId} {args : Array Value} {below : List Frame} {meth : Method} {c : Code} {H : Heap} {locs : List Loc} {cells slots : Nat} {Q : State → Prop}
variable {cc : ByteArray} {pc nL : Nat} {ls : Array Slot} {rest st0 : List Value} {own : String}
theorem cx_Vi {y : MethodName} {bytes : ByteArray} {mL n idx mc ms : Nat} {ret : Option FieldType} {rm : Room} {D : va_G} {wc : va_W} {X : State → Heap → Prop} {Y : State → Prop} {S : Type} {post : Int32 → S → Prop} {wsn : S → va_W} {EX : String → Unit → State → Prop} {A0 : Nat → Prop} {C : String} {b : Addr} (As : List Value) (hC : CallFix p m c cc nL s args tw_L own)
    (hM : vx_Met l y (Cond.code y bytes mL ret :: tw_L) rm (mu_P D wc H.size X Y (.ref b :: As)) (va_Qi post (mu_B D wc H.size wsn) (va_A wc H.size)) (vx_X (fun _ : Unit => True) EX (fun q => H.size ≤ q)) mc ms (va_A wc H.size)) (hw : wd_V own idx C y bytes mL ret) (hd : wd_M y n) (hR : wd_R R rm mL mc ms) (hXs : is_X X) (hY : is_Y Y) (h : Y s) (hX : X s H) (hr : is_rc s H C b)
    (hPc : va_P D cl_L wc H) (hDc : va_D (fun _ => True) wc) (hS : va_S A0 s.heap H locs) (hF : ∀ q, va_A wc H.size q → A0 q)
    (hn : As.length = n) (hl : ls.size = nL) (hst : st0 = As.reverse ++ .ref b :: rest) (hrs : (rest.map fun v => v.category).sum ≤ 8) (hdg : decode cc pc = .ok (.invokevirtual idx, 3)) (hf : cells + mc ≤ R.cells ∧ slots + ms ≤ R.slots)
    (kx : ∀ (E : String) (ce : Cell) (q9 : Addr) (t : State) (H1 : Heap) (locs1 : List Loc), EX E () t → (∀ q : Nat, q < H.size → H1[q]? = H[q]?) → va_S A0 s.heap H1 locs1 → H1[q9]? = some ce → ce.vm = .none → s.vm.findClass E = some ce.cls → vx_W p l e R s m args below meth c H1 locs1 (cells + mc) (slots + ms) Q (F0 m pc ls rest) q9)
    (kk : ∀ (r : Int32) (u : S) (H1 : Heap) (locs1 : List Loc), post r u → va_P D cl_L (wsn u) H1 → va_D (va_A wc H.size) (wsn u) → H.size ≤ H1.size → (∀ q : Nat, q < H.size → ¬ va_A wc H.size q → H1[q]? = H[q]?) → va_S A0 s.heap H1 locs1 → W p l e R s m args below meth c H1 locs1 (cells + mc) (slots + ms) Q (F0 m (pc + 3) ls (.int r :: rest))) : W p l e R s m args below meth c H locs cells slots Q (F0 m pc ls st0) := by
  subst hst
  exact vx_calli (vx_runV (As := As) (rest := rest) hC hM ⟨cx_B hC.2.2.2.2 hw.1 hw.2.1 hw.2.2.1 hd hR, hC.2.2.2.2 _ hw.2.2.2.1, hC.2.2.2.2 _ hw.2.2.2.2⟩ ⟨mu_bl hXs hY, hr, mu_at hXs hY h hX hPc hDc⟩ rfl hn hl rfl (lv_room hrs) hdg hf) hS (fun q _ hq => hF q hq) hF (fun q h1 h2 => absurd h1 (Nat.not_lt.mpr h2))
    (fun E ce q9 u t H1 locs1 ht _ _ hE _ hk hS1 h1 h2 h3 => kx E ce q9 t H1 locs1 hE (fun q hq => hk q hq (Nat.not_le.mpr hq)) hS1 h1 h2 h3)
    (fun r u t H1 locs1 ht _ hp hB hz hk hS1 => kk r u H1 locs1 hp (by rw [← ht]; exact hB.1) hB.2 hz hk hS1)
theorem cx_GW {idx : Nat} {y : MethodName} {bytes : ByteArray} {mL : Nat} {ret : Option FieldType} {hh : List (Nat × Nat × Nat × Nat)} (hc : Cond.codeWith y bytes mL ret hh ∈ tw_L) (hn : Cond.initialized y.cls ∈ tw_L) (hk : Cond.methodLink own idx y ∈ tw_L) (hs : Cond.static y ∈ tw_L) : GoodIn tw_L (va_wsS own idx y (Cond.codeWith y bytes mL ret hh :: tw_L)) := by
  intro w hw
  unfold va_wsS at hw
  have hm : w ∈ tw_L := by
    rcases List.mem_append.mp hw with h | h
    · simp only [List.mem_cons, List.not_mem_nil, or_false] at h
      rcases h with rfl | rfl | rfl
      · exact hk
      · exact hs
      · exact hn
    · rcases List.mem_cons.mp h with h | h
      · rw [h]; exact hc
      · exact h
  exact ⟨hm, tw_gd hm⟩
theorem cm_SW {y : MethodName} {bytes : ByteArray} {mL n idx mc ms : Nat} {ret : Option FieldType} {hh : List (Nat × Nat × Nat × Nat)} {rm : Room} {D : va_G} {wc : va_W} {X : State → Heap → Prop} {Y : State → Prop} {S : Type} {post : Int32 → S → Prop} {wsn : S → va_W} {A0 : Nat → Prop} (As : List Value) (hC : CallFix p m c cc nL s args tw_L own)
    (hM : Met l y (Cond.codeWith y bytes mL ret hh :: tw_L) rm (mu_P D wc H.size X Y As) (va_Qi post (mu_B D wc H.size wsn) (va_A wc H.size)) mc ms (va_A wc H.size)) (hw : Cond.codeWith y bytes mL ret hh ∈ tw_L ∧ Cond.initialized y.cls ∈ tw_L ∧ Cond.methodLink own idx y ∈ tw_L ∧ Cond.static y ∈ tw_L) (hd : wd_M y n) (hR : wd_R R rm mL mc ms) (hXs : is_X X) (hY : is_Y Y) (h : Y s) (hX : X s H)
    (hPc : va_P D cl_L wc H) (hDc : va_D (fun _ => True) wc) (hS : va_S A0 s.heap H locs) (hF : ∀ q, va_A wc H.size q → A0 q)
    (hn : As.length = n) (hl : ls.size = nL) (hst : st0 = As.reverse ++ rest) (hrs : (rest.map fun v => v.category).sum ≤ 8) (hdg : decode cc pc = .ok (.invokestatic idx, 3)) (hf : cells + mc ≤ R.cells ∧ slots + ms ≤ R.slots)
    (kk : ∀ (r : Int32) (u : S) (H1 : Heap) (locs1 : List Loc), post r u → va_P D cl_L (wsn u) H1 → va_D (va_A wc H.size) (wsn u) → H.size ≤ H1.size → (∀ q : Nat, q < H.size → ¬ va_A wc H.size q → H1[q]? = H[q]?) → va_S A0 s.heap H1 locs1 → W p l e R s m args below meth c H1 locs1 (cells + mc) (slots + ms) Q (F0 m (pc + 3) ls (.int r :: rest))) : W p l e R s m args below meth c H locs cells slots Q (F0 m pc ls st0) := by
  subst hst
  exact va_calli (vx_runSW (As := As) (rest := rest) hC hM (vx_cwSW n hC.2.2.2.2 (cx_GW hw.1 hw.2.1 hw.2.2.1 hw.2.2.2) rfl hR.1 hR.2.1 hd hR.2.2) ⟨mu_bl hXs hY, mu_at hXs hY h hX hPc hDc⟩ rfl hn hl rfl (lv_room hrs) hdg hf) hS (fun q _ hq => hF q hq) hF
    (fun r u t H1 locs1 ht _ hp hB hz hk hS1 => kk r u H1 locs1 hp (by rw [← ht]; exact hB.1) hB.2 hz hk hS1)
end CY
-- a call that is refused changes nothing
section TH
variable {σ : st_T} {a b d s n v : Int32}
theorem th_mv (h : ¬ (sp_mv σ a b d s n v).1 = 0) : (sp_mv σ a b d s n v).2.2 = σ := by
  obtain ⟨off, nm, ng, now, F, R⟩ := σ
  simp only [sp_mv] at h ⊢
  revert h
  repeat' split
  all_goals first | (intro _; rfl) | (intro h; exact absurd rfl h)
theorem th_ar (h : ¬ (sp_ar σ a b d).1 = 0) : (sp_ar σ a b d).2.2 = σ := by
  obtain ⟨off, nm, ng, now, F, R⟩ := σ
  simp only [sp_ar] at h ⊢
  revert h
  repeat' split
  all_goals first | (intro _; rfl) | (intro h; exact absurd rfl h)
theorem th_co (h : ¬ (sp_co σ a b).1 = 0) : (sp_co σ a b).2.2 = σ := by
  obtain ⟨off, nm, ng, now, F, R⟩ := σ
  simp only [sp_co] at h ⊢
  revert h
  repeat' split
  all_goals first | (intro _; rfl) | (intro h; exact absurd rfl h)
theorem th_re (h : ¬ (sp_re σ a b).1 = 0) : (sp_re σ a b).2.2 = σ := by
  obtain ⟨off, nm, ng, now, F, R⟩ := σ
  simp only [sp_re] at h ⊢
  revert h
  split
  · split
    · intro h; exact absurd rfl h
    · intro h; exact absurd rfl h
  · intro _; rfl
theorem th_ti (h : ¬ (sp_ti σ a).1 = 0) : (sp_ti σ a).2.2 = σ := by
  obtain ⟨off, nm, ng, now, F, R⟩ := σ
  simp only [sp_ti] at h ⊢
  revert h
  repeat' split
  all_goals first | (intro _; rfl) | (intro h; exact absurd rfl h)
theorem th_di (h : ¬ (sp_di σ a b).1 = 0) : (sp_di σ a b).2.2 = σ := by
  obtain ⟨off, nm, ng, now, F, R⟩ := σ
  simp only [sp_di] at h ⊢
  revert h
  repeat' split
  all_goals first | (intro _; rfl) | (intro h; exact absurd rfl h)
theorem th_pr (h : ¬ (sp_pr σ a).1 = 0) : (sp_pr σ a).2.2 = σ := by
  obtain ⟨off, nm, ng, now, F, R⟩ := σ
  simp only [sp_pr] at h ⊢
  revert h
  repeat' split
  all_goals first | (intro _; rfl) | (intro h; exact absurd rfl h)
end TH
theorem lg_u0 (f : Nat → Int64) (x : Int64) : vp_updL f (0 : Int32).toNatClampNeg x 0 = x := by
  simp [vp_updL]
