theorem rs_c : 200000 ≤ room_1.cells := Nat.le_of_ble_eq_true rfl
theorem rs_s : 1000000 ≤ room_1.slots := Nat.le_of_ble_eq_true rfl
def R_law : String := "TransitStepsLaw"
def lw_P (b : Addr) (xs : List Int32) (args : Array Value) (s : State) : Prop := args = #[.ref b] ∧ s.IntsAt b xs ∧ xs.length ≤ 3585 ∧ (Jvm.Cond.and given_1 narrow_1).before args s = true
def lw_Q (_ : Array Value) (s : State) (o : Outcome) (t : State) : Prop := o = .returned (some (.int 1)) ∧ Framed s o t [] room_1.cells room_1.slots
def lw_Z (below : List Frame) (a : Array Value) (s : State) : State → Prop := fun t => ∃ o, t.status = .running ∧ Ended t below o ∧ lw_Q a s o t
/-- the law's own end, with 1 on the stack, nothing written that was there before, its room as the claim has it -/
theorem lw_ret {p : Program} {l : Launch} {e : Env} {s : State} {m : MethodId} {below : List Frame} {meth : Method} {c : Code} {b : Nat} (hx : p.tables.exec = Jvm.exec) (hb : c.code = code) (hr : meth.sig.returnType = ret) (hlocks : meth.locks = false) {pc : Nat} {H : Heap} {ls : Array Slot} (hdg : decode code pc = .ok (.ireturn, 1)) : W p l e room_1 s m #[Value.ref b] below meth c H [] room_1.cells room_1.slots (lw_Z below #[Value.ref b] s) (F0 m pc ls [.int 1]) := by
  intro T hT X
  obtain ⟨fs, hret, hrun, hended, hW, hframe⟩ := X.leave (v := some (.int 1)) (hlocks := hlocks) (fun h => by rw [hr] at h; cases h)
  have hmeth' : T.vm.method? m = some meth := X.method'
  refine ⟨T.setFrames fs, ?_, .returned (some (.int 1)), hrun, hended, rfl, ⟨_, rfl⟩, hW, hframe⟩
  jvm_step X.here [X.here.top, hx, hb, hdg, hmeth', hr, ret, narrow_b1]
  (try refine ⟨rfl, ?_⟩); (try refine ⟨rfl, ?_⟩)
  first | (intro acts; rw [hret _ acts rfl rfl rfl]) | rw [hret _ _ rfl rfl rfl]
  exact Steps.refl _
/-- what holds at the law's entry: the machine, the code, the tables' words (any of lw_tbl by 'hts w (by decide +kernel)'), the script of L ints xs at the cell b, what the Statement gives of the start (any of its parts by flat_of_before) -/
def lw_At (p : Program) (s : State) (m : MethodId) (meth : Method) (c : Code) (b L : Nat) (xs : Nat → Int32) : Prop :=
  p.tables.exec = Jvm.exec ∧ c.code = code ∧ meth.sig.returnType = ret ∧ c.maxLocals = 7 ∧ s.vm.findClass R_law = some m.cls ∧ (∀ w ∈ lw_tbl, w.before #[Value.ref b] s = true) ∧ va_X b L xs s s.heap ∧ b < s.heap.size ∧ meth.locks = false ∧ (Jvm.Cond.and given_1 narrow_1).before #[Value.ref b] s = true
theorem lw_c {L i : Nat} (hL : L ≤ 3585) (hi : i ≤ 4000) (h : ¬ Int32.ofNat L - 7 < nI i) : i + 7 ≤ L := by
  have e1 : (Int32.ofNat L).toInt = L := i_nI (by omega)
  have e7 : (7 : Int32).toInt = 7 := rfl
  have e2 : (Int32.ofNat L - 7).toInt = L - 7 := by rw [i_sub] <;> omega
  rw [i_lt, e2, i_nI (by omega)] at h
  omega
theorem sr_lo {S : Nat → Int32} {σ : st_T} {x : Int32} (h : sr_P S σ) : sr_P S (sp_lo σ x).2 := by
  obtain ⟨off, nm, ng, now, F, R⟩ := σ
  simp only [sp_lo]
  split <;> exact h
section LS
variable {p : Program} {l : Launch} {e : Env} {R : Room} {s : State} {m : MethodId} {args : Array Value} {below : List Frame} {meth : Method} {c : Code} {H H0 : Heap} {locs : List Loc} {cells slots : Nat} {Q : State → Prop}
variable {cc : ByteArray} {pc : Nat} {ls : Array Slot} {rest : List Value} {A : Nat → Prop}
theorem lw_ld (hexec : p.tables.exec = Jvm.exec) (hb : c.code = cc) {b L j : Nat} {xs : Nat → Int32} (hX : va_X b L xs s H0) (hbl : b < H0.size) (hbA : ¬ A b) (hS : va_S A H0 H locs) (hj : j < L) (hL : L ≤ 3585) (hdg : decode cc pc = .ok (.iaload, 1))
    (kk : W p l e R s m args below meth c H locs cells slots Q (F0 m (pc + 1) ls (.int (xs j) :: rest))) : W p l e R s m args below meth c H locs cells slots Q (F0 m pc ls (.int (nI j) :: .ref b :: rest)) :=
  va_sld hexec hb hX hbl hbA hS (vp_in_nI hj (by omega)) hdg (by rw [nI_clamp (show j < 2 ^ 31 by omega)]; exact kk)
end LS
set_option maxHeartbeats 4000000 in
set_option maxRecDepth 100000 in
theorem law_L {p : Program} {e : Env} {s : State} {m : MethodId} {below : List Frame} {meth : Method} {c : Code} (l : Launch) (hl0 : l.stackTraces = false) {b L : Nat} {xs : Nat → Int32} (hL : L ≤ 3585) (C0 : lw_At p s m meth c b L xs) (D : va_G) (cM cG cI cJ : ClassId) (hY : yt_P D cM cG cI cJ s) (A : Nat → Prop) (hAe : A = fun z => s.heap.size ≤ z) (hXs : sx_P A s s.heap) (hXa : sa_P A s s.heap) (o am ag r rr : Nat) (ra : Nat → Nat) (q : Nat) : ∀ (n9 i j t9 : Nat) (off : Int32) (nm ng : Nat) (now : Int32) (F : Nat → Nat → Int32) (R : Nat → Int32) (pm pg : Nat → Nat) (th : Int32) (Sr : Nat → Int32) (f : Nat → Int64) (H : Heap) (locs : List Loc) (ls : Array Slot), 513 ≤ j + n9 → i = 7 * j + 1 → j ≤ 512 → iv_S t9 (off, nm, ng, now, F, R) → sr_P Sr (off, nm, ng, now, F, R) → va_P D cl_L ((q, .inl (cJ, 1, .inr (.inl f))) :: (ws_C cM cG o am ag pm pg (off, nm, ng, now, F, R) ++ ws_N cI r rr ra th Sr (off, nm, ng, now, F, R))) H → va_D A ((q, .inl (cJ, 1, .inr (.inl f))) :: (ws_C cM cG o am ag pm pg (off, nm, ng, now, F, R) ++ ws_N cI r rr ra th Sr (off, nm, ng, now, F, R))) → va_S A s.heap H locs → lv_has ls 7 [(0, .ref b), (1, .ref o), (2, .ref r), (3, .ref q), (4, .int (nI i))] → W p l e room_1 s m #[Value.ref b] below meth c H locs (25 + 200 * j) (3432 + 1400 * j) (lw_Z below #[Value.ref b] s) (F0 m 33 ls []) := by
  obtain ⟨hx, hb, hr, hml, hown, hts, hX, hbl, hlocks, hgv⟩ := id C0
  have htw : ∀ w ∈ tw_L, w.before #[Value.ref b] s = true := fun w hw => hts w (List.mem_filter.mp hw).1
  have hA : ∀ z : Nat, s.heap.size ≤ z → A z := fun z h => by rw [hAe]; exact h
  have hbA : ¬ A b := by rw [hAe]; exact Nat.not_le.mpr hbl
  have hC : CallFix p m c c_L_law 7 s #[Value.ref b] tw_L R_L := ⟨hx, hb, hml, hown, htw⟩
  have hK := hY.1
  intro n9
  induction n9 with
  | zero => intro i j t9 off nm ng now F R pm pg th Sr f H locs ls hn9 hij hj; exfalso; omega
  | succ n9 ih =>
    intro i j t9 off nm ng now F R pm pg th Sr f H locs ls hn9 hij hj hI hSr hP hD hS hl
    obtain ⟨hof, hn20, hnow, ht4, hM, hZ, hG, hcn⟩ := id hI
    have hg200 : ng ≤ 200 := by have := cn_0 hM hcn; omega
    clear hof hnow ht4 hM hZ hG hcn
    refine lv_iload hx hb d_L_law_33 (lv_at hl 4 rfl) ?_
    refine lv_aload_n hx hb d_L_law_35 rfl (lv_at hl 0 rfl) ?_
    refine va_slen hx hb hX hbl hbA hS d_L_law_36 ?_
    refine lv_bipush (v := 7) hx hb d_L_law_37 (by decide) ?_
    refine lv_isub hx hb d_L_law_39 ?_
    refine lv_icmp_gt (tgt := 886) hx hb d_L_law_40 (by decide) (fun c1 => ?_) (fun c1 => ?_)
    · refine va_forget (fun z hz => by have := hS.2.2 z hz; rw [hAe] at this; exact this) ?_
      refine W.widen (k := room_1.cells) (n := room_1.slots) (by have := rs_c; omega) (by have := rs_s; omega) ?_
      refine lv_iconst (v := 1) hx hb d_L_law_886 (by decide) ?_
      exact lw_ret hx hb hr hlocks d_L_law_887
    · have hiL := lw_c hL (by omega) c1
      clear c1
      refine lv_aload_n hx hb d_L_law_43 rfl (lv_at hl 0 rfl) ?_
      refine lv_iload hx hb d_L_law_44 (lv_at hl 4 rfl) ?_
      refine lw_ld hx hb hX hbl hbA hS (show i < L by omega) hL d_L_law_46 ?_
      refine lv_bipush (v := 15) hx hb d_L_law_47 (by decide) ?_
      refine lv_iand hx hb d_L_law_49 ?_
      by_cases e2 : ((xs i) &&& 15) = 0
      · refine sk_as e2 ?_
        refine lv_tableIn (off := 62) (tgt := 112) hx hb d_L_law_50 (by decide) (by decide) rfl (by decide) ?_
        refine lv_aload_n hx hb d_L_law_112 rfl (lv_at hl 1 rfl) ?_
        refine lv_aload_n hx hb d_L_law_113 rfl (lv_at hl 0 rfl) ?_
        refine lv_iload hx hb d_L_law_114 (lv_at hl 4 rfl) ?_
        refine lv_iconst (v := 1) hx hb d_L_law_116 (by decide) ?_
        refine lv_iadd hx hb d_L_law_117 ?_
        refine sk_as (y := nI (i + 1)) (nI_add (i) 1) ?_
        refine lw_ld hx hb hX hbl hbA hS (show i + 1 < L by omega) hL d_L_law_118 ?_
        refine lv_aload_n hx hb d_L_law_119 rfl (lv_at hl 0 rfl) ?_
        refine lv_iload hx hb d_L_law_120 (lv_at hl 4 rfl) ?_
        refine lv_iconst (v := 2) hx hb d_L_law_122 (by decide) ?_
        refine lv_iadd hx hb d_L_law_123 ?_
        refine sk_as (y := nI (i + 2)) (nI_add (i) 2) ?_
        refine lw_ld hx hb hX hbl hbA hS (show i + 2 < L by omega) hL d_L_law_124 ?_
        refine lv_aload_n hx hb d_L_law_125 rfl (lv_at hl 0 rfl) ?_
        refine lv_iload hx hb d_L_law_126 (lv_at hl 4 rfl) ?_
        refine lv_iconst (v := 3) hx hb d_L_law_128 (by decide) ?_
        refine lv_iadd hx hb d_L_law_129 ?_
        refine sk_as (y := nI (i + 3)) (nI_add (i) 3) ?_
        refine lw_ld hx hb hX hbl hbA hS (show i + 3 < L by omega) hL d_L_law_130 ?_
        refine lv_aload_n hx hb d_L_law_131 rfl (lv_at hl 0 rfl) ?_
        refine lv_iload hx hb d_L_law_132 (lv_at hl 4 rfl) ?_
        refine lv_iconst (v := 4) hx hb d_L_law_134 (by decide) ?_
        refine lv_iadd hx hb d_L_law_135 ?_
        refine sk_as (y := nI (i + 4)) (nI_add (i) 4) ?_
        refine lw_ld hx hb hX hbl hbA hS (show i + 4 < L by omega) hL d_L_law_136 ?_
        refine lv_aload_n hx hb d_L_law_137 rfl (lv_at hl 0 rfl) ?_
        refine lv_iload hx hb d_L_law_138 (lv_at hl 4 rfl) ?_
        refine lv_iconst (v := 5) hx hb d_L_law_140 (by decide) ?_
        refine lv_iadd hx hb d_L_law_141 ?_
        refine sk_as (y := nI (i + 5)) (nI_add (i) 5) ?_
        refine lw_ld hx hb hX hbl hbA hS (show i + 5 < L by omega) hL d_L_law_142 ?_
        refine lv_aload_n hx hb d_L_law_143 rfl (lv_at hl 0 rfl) ?_
        refine lv_iload hx hb d_L_law_144 (lv_at hl 4 rfl) ?_
        refine lv_bipush (v := 6) hx hb d_L_law_146 (by decide) ?_
        refine lv_iadd hx hb d_L_law_148 ?_
        refine sk_as (y := nI (i + 6)) (nI_add (i) 6) ?_
        refine lw_ld hx hb hX hbl hbA hS (show i + 6 < L by omega) hL d_L_law_149 ?_
        refine lv_aload_n hx hb d_L_law_150 rfl (lv_at hl 3 rfl) ?_
        have hPa : va_P D cl_L (((q, .inl (cJ, 1, .inr (.inl f))) :: ws_C cM cG o am ag pm pg (off, nm, ng, now, F, R)) ++ ws_N cI r rr ra th Sr (off, nm, ng, now, F, R)) H := hP
        have hDa : va_D A (((q, .inl (cJ, 1, .inr (.inl f))) :: ws_C cM cG o am ag pm pg (off, nm, ng, now, F, R)) ++ ws_N cI r rr ra th Sr (off, nm, ng, now, F, R)) := hD
        have hF9 := wk_F (wk_LD hDa) hS hA
        refine cm_SW (n := 8) [.ref o, .int (xs (i + 1)), .int (xs (i + 2)), .int (xs (i + 3)), .int (xs (i + 4)), .int (xs (i + 5)), .int (xs (i + 6)), .ref q] hC (t_L_movement l D cM cG cI cJ o am ag pm pg off nm ng now F R q f _ (xs (i + 1)) (xs (i + 2)) (xs (i + 3)) (xs (i + 4)) (xs (i + 5)) (xs (i + 6)) hl0 t9 hI) ⟨kw_L_movement, kn_L, k_L_61, ks_L_movement⟩ (by decide +kernel) ⟨rfl, rfl, Nat.le_of_ble_eq_true rfl, Nat.le_of_ble_eq_true rfl⟩ sz_2 (yt_Y D cM cG cI cJ) hY ⟨sx_k hXs hS hF9, sa_k hXa hS hF9⟩ (wk_L hPa) (wk_T (wk_LD hDa)) hS hF9 rfl hl.1 rfl (Nat.le_of_ble_eq_true rfl) d_L_law_151 ⟨by show 25 + 200 * j + 2 ≤ room_1.cells; have := rs_c; omega, by show 3432 + 1400 * j + 26 ≤ room_1.slots; have := rs_s; omega⟩ (fun r1 u H1 locs1 hw9 hP1 hD1 hz9 hk9 hS1 => ?_)
        obtain ⟨⟨pm1, pg1⟩, f1⟩ := u
        have hw9 : r1 = (sp_mv (off, nm, ng, now, F, R) (xs (i + 1)) (xs (i + 2)) (xs (i + 3)) (xs (i + 4)) (xs (i + 5)) (xs (i + 6))).1 ∧ ((sp_mv (off, nm, ng, now, F, R) (xs (i + 1)) (xs (i + 2)) (xs (i + 3)) (xs (i + 4)) (xs (i + 5)) (xs (i + 6))).1 = 0 → f1 0 = ((sp_mv (off, nm, ng, now, F, R) (xs (i + 1)) (xs (i + 2)) (xs (i + 3)) (xs (i + 4)) (xs (i + 5)) (xs (i + 6))).2.1).toInt64) := hw9
        obtain ⟨hP2, hD2⟩ := jn_L hPa hDa hk9 hF9 hP1 hD1
        have hP : va_P D cl_L ((q, .inl (cJ, 1, .inr (.inl f1))) :: (ws_C cM cG o am ag pm1 pg1 (sp_mv (off, nm, ng, now, F, R) (xs (i + 1)) (xs (i + 2)) (xs (i + 3)) (xs (i + 4)) (xs (i + 5)) (xs (i + 6))).2.2 ++ ws_N cI r rr ra th Sr (off, nm, ng, now, F, R))) H1 := hP2
        have hD : va_D A ((q, .inl (cJ, 1, .inr (.inl f1))) :: (ws_C cM cG o am ag pm1 pg1 (sp_mv (off, nm, ng, now, F, R) (xs (i + 1)) (xs (i + 2)) (xs (i + 3)) (xs (i + 4)) (xs (i + 5)) (xs (i + 6))).2.2 ++ ws_N cI r rr ra th Sr (off, nm, ng, now, F, R))) := hD2
        have hS := hS1
        clear hPa hDa hF9 hP1 hD1 hP2 hD2 hS1 hk9 hz9
        refine lv_istore (lv' := [(5, .int r1), (0, .ref b), (1, .ref o), (2, .ref r), (3, .ref q), (4, .int (nI i))]) hx hb d_L_law_154 hl (by decide) rfl (fun ls hl => ?_)
        refine lv_aload_n hx hb d_L_law_156 rfl (lv_at hl 3 rfl) ?_
        refine lv_aload_n hx hb d_L_law_157 rfl (lv_at hl 1 rfl) ?_
        refine lv_iload hx hb d_L_law_158 (lv_at hl 5 rfl) ?_
        refine lv_iconst (v := 1) hx hb d_L_law_160 (by decide) ?_
        refine lv_iadd hx hb d_L_law_161 ?_
        refine sk_as (y := nI (i + 1)) (nI_add (i) 1) ?_
        refine lw_ld hx hb hX hbl hbA hS (show i + 1 < L by omega) hL d_L_law_162 ?_
        refine lv_aload_n hx hb d_L_law_163 rfl (lv_at hl 1 rfl) ?_
        refine lv_iload hx hb d_L_law_164 (lv_at hl 5 rfl) ?_
        refine lv_iconst (v := 2) hx hb d_L_law_166 (by decide) ?_
        refine lv_iadd hx hb d_L_law_167 ?_
        refine sk_as (y := nI (i + 2)) (nI_add (i) 2) ?_
        refine lw_ld hx hb hX hbl hbA hS (show i + 2 < L by omega) hL d_L_law_168 ?_
        refine lv_aload_n hx hb d_L_law_169 rfl (lv_at hl 1 rfl) ?_
        refine lv_iload hx hb d_L_law_170 (lv_at hl 5 rfl) ?_
        refine lv_iconst (v := 3) hx hb d_L_law_172 (by decide) ?_
        refine lv_iadd hx hb d_L_law_173 ?_
        refine sk_as (y := nI (i + 3)) (nI_add (i) 3) ?_
        refine lw_ld hx hb hX hbl hbA hS (show i + 3 < L by omega) hL d_L_law_174 ?_
        refine lv_aload_n hx hb d_L_law_175 rfl (lv_at hl 1 rfl) ?_
        refine lv_iload hx hb d_L_law_176 (lv_at hl 5 rfl) ?_
        refine lv_iconst (v := 4) hx hb d_L_law_178 (by decide) ?_
        refine lv_iadd hx hb d_L_law_179 ?_
        refine sk_as (y := nI (i + 4)) (nI_add (i) 4) ?_
        refine lw_ld hx hb hX hbl hbA hS (show i + 4 < L by omega) hL d_L_law_180 ?_
        refine lv_aload_n hx hb d_L_law_181 rfl (lv_at hl 1 rfl) ?_
        refine lv_iload hx hb d_L_law_182 (lv_at hl 5 rfl) ?_
        refine lv_iconst (v := 5) hx hb d_L_law_184 (by decide) ?_
        refine lv_iadd hx hb d_L_law_185 ?_
        refine sk_as (y := nI (i + 5)) (nI_add (i) 5) ?_
        refine lw_ld hx hb hX hbl hbA hS (show i + 5 < L by omega) hL d_L_law_186 ?_
        refine lv_aload_n hx hb d_L_law_187 rfl (lv_at hl 1 rfl) ?_
        refine lv_iload hx hb d_L_law_188 (lv_at hl 5 rfl) ?_
        refine lv_bipush (v := 6) hx hb d_L_law_190 (by decide) ?_
        refine lv_iadd hx hb d_L_law_192 ?_
        refine sk_as (y := nI (i + 6)) (nI_add (i) 6) ?_
        refine lw_ld hx hb hX hbl hbA hS (show i + 6 < L by omega) hL d_L_law_193 ?_
        have hPa : va_P D cl_L (ws_N cI r rr ra th Sr (off, nm, ng, now, F, R) ++ ((q, .inl (cJ, 1, .inr (.inl f1))) :: ws_C cM cG o am ag pm1 pg1 (sp_mv (off, nm, ng, now, F, R) (xs (i + 1)) (xs (i + 2)) (xs (i + 3)) (xs (i + 4)) (xs (i + 5)) (xs (i + 6))).2.2)) H1 := wk_sw (wa := ((q, .inl (cJ, 1, .inr (.inl f1))) :: ws_C cM cG o am ag pm1 pg1 (sp_mv (off, nm, ng, now, F, R) (xs (i + 1)) (xs (i + 2)) (xs (i + 3)) (xs (i + 4)) (xs (i + 5)) (xs (i + 6))).2.2)) hP
        have hDa : va_D A (ws_N cI r rr ra th Sr (off, nm, ng, now, F, R) ++ ((q, .inl (cJ, 1, .inr (.inl f1))) :: ws_C cM cG o am ag pm1 pg1 (sp_mv (off, nm, ng, now, F, R) (xs (i + 1)) (xs (i + 2)) (xs (i + 3)) (xs (i + 4)) (xs (i + 5)) (xs (i + 6))).2.2)) := wk_swD (wa := ((q, .inl (cJ, 1, .inr (.inl f1))) :: ws_C cM cG o am ag pm1 pg1 (sp_mv (off, nm, ng, now, F, R) (xs (i + 1)) (xs (i + 2)) (xs (i + 3)) (xs (i + 4)) (xs (i + 5)) (xs (i + 6))).2.2)) hD
        have hF9 := wk_F (wk_LD hDa) hS hA
        refine cm_Vi (n := 6) [.int (xs (i + 1)), .int (xs (i + 2)), .int (xs (i + 3)), .int (xs (i + 4)), .int (xs (i + 5)), .int (xs (i + 6))] hC (t_N_movement l D cM cG cI cJ r rr ra th Sr off nm ng now F R _ (xs (i + 1)) (xs (i + 2)) (xs (i + 3)) (xs (i + 4)) (xs (i + 5)) (xs (i + 6)) t9 hI hSr) ⟨kc_N_movement, kn_N, k_L_64, ki_N_movement, kv_N_movement⟩ (by decide +kernel) ⟨rfl, rfl, Nat.le_of_ble_eq_true rfl, Nat.le_of_ble_eq_true rfl⟩ x_0 (yt_Y D cM cG cI cJ) hY trivial (va_recv hK (wk_L hPa) (ci := 3) (q0 := 0) rfl rfl) (wk_L hPa) (wk_T (wk_LD hDa)) hS hF9 rfl hl.1 rfl (Nat.le_of_ble_eq_true rfl) d_L_law_194 ⟨by show 25 + 200 * j + 2 + 0 ≤ room_1.cells; have := rs_c; omega, by show 3432 + 1400 * j + 26 + 0 ≤ room_1.slots; have := rs_s; omega⟩ (fun v1 u1 H2 locs2 hv9 hP1 hD1 hz9 hk9 hS1 => ?_)
        obtain ⟨hP2, hD2⟩ := jn_L hPa hDa hk9 hF9 hP1 hD1
        replace hP2 := wk_sw hP2
        replace hD2 := wk_swD hD2
        have hP : va_P D cl_L ((q, .inl (cJ, 1, .inr (.inl f1))) :: (ws_C cM cG o am ag pm1 pg1 (sp_mv (off, nm, ng, now, F, R) (xs (i + 1)) (xs (i + 2)) (xs (i + 3)) (xs (i + 4)) (xs (i + 5)) (xs (i + 6))).2.2 ++ ws_N cI r rr ra ((sp_mv (off, nm, ng, now, F, R) (xs (i + 1)) (xs (i + 2)) (xs (i + 3)) (xs (i + 4)) (xs (i + 5)) (xs (i + 6))).1) u1 (sp_mv (off, nm, ng, now, F, R) (xs (i + 1)) (xs (i + 2)) (xs (i + 3)) (xs (i + 4)) (xs (i + 5)) (xs (i + 6))).2.2)) H2 := hP2
        have hD : va_D A ((q, .inl (cJ, 1, .inr (.inl f1))) :: (ws_C cM cG o am ag pm1 pg1 (sp_mv (off, nm, ng, now, F, R) (xs (i + 1)) (xs (i + 2)) (xs (i + 3)) (xs (i + 4)) (xs (i + 5)) (xs (i + 6))).2.2 ++ ws_N cI r rr ra ((sp_mv (off, nm, ng, now, F, R) (xs (i + 1)) (xs (i + 2)) (xs (i + 3)) (xs (i + 4)) (xs (i + 5)) (xs (i + 6))).1) u1 (sp_mv (off, nm, ng, now, F, R) (xs (i + 1)) (xs (i + 2)) (xs (i + 3)) (xs (i + 4)) (xs (i + 5)) (xs (i + 6))).2.2)) := hD2
        have hS := hS1
        clear hPa hDa hF9 hP1 hD1 hP2 hD2 hS1 hk9 hz9
        obtain ⟨th1, hth1⟩ : ∃ th1 : Int32, th1 = (sp_mv (off, nm, ng, now, F, R) (xs (i + 1)) (xs (i + 2)) (xs (i + 3)) (xs (i + 4)) (xs (i + 5)) (xs (i + 6))).1 := ⟨_, rfl⟩
        have hr1 : r1 = th1 := hw9.1.trans hth1.symm
        have hv1 : th1 = 0 → f1 0 = v1.toInt64 := fun z => by rw [hv9.1 (hth1.symm.trans z)]; exact hw9.2 (hth1.symm.trans z)
        obtain ⟨σ1, hσ1⟩ : ∃ σ1 : st_T, σ1 = (sp_mv (off, nm, ng, now, F, R) (xs (i + 1)) (xs (i + 2)) (xs (i + 3)) (xs (i + 4)) (xs (i + 5)) (xs (i + 6))).2.2 := ⟨_, rfl⟩
        have hI1 : iv_S t9 σ1 := by rw [hσ1]; exact kp_mv hI (xs (i + 1)) (xs (i + 2)) (xs (i + 3)) (xs (i + 4)) (xs (i + 5)) (xs (i + 6))
        have hSr1 : sr_P u1 σ1 := by rw [hσ1]; exact hv9.2
        rw [← hσ1, ← hth1] at hP hD
        clear hσ1
        obtain ⟨off1, nm1, ng1, now1, F1, R1⟩ := σ1
        refine lv_istore (lv' := [(6, .int v1), (5, .int r1), (0, .ref b), (1, .ref o), (2, .ref r), (3, .ref q), (4, .int (nI i))]) hx hb d_L_law_197 hl (by decide) rfl (fun ls hl => ?_)
        refine lv_aload_n hx hb d_L_law_199 rfl (lv_at hl 4 rfl) ?_
        have hPa : va_P D cl_L (ws_N cI r rr ra th1 u1 (off1, nm1, ng1, now1, F1, R1) ++ ((q, .inl (cJ, 1, .inr (.inl f1))) :: ws_C cM cG o am ag pm1 pg1 (off1, nm1, ng1, now1, F1, R1))) H2 := wk_sw (wa := ((q, .inl (cJ, 1, .inr (.inl f1))) :: ws_C cM cG o am ag pm1 pg1 (off1, nm1, ng1, now1, F1, R1))) hP
        have hDa : va_D A (ws_N cI r rr ra th1 u1 (off1, nm1, ng1, now1, F1, R1) ++ ((q, .inl (cJ, 1, .inr (.inl f1))) :: ws_C cM cG o am ag pm1 pg1 (off1, nm1, ng1, now1, F1, R1))) := wk_swD (wa := ((q, .inl (cJ, 1, .inr (.inl f1))) :: ws_C cM cG o am ag pm1 pg1 (off1, nm1, ng1, now1, F1, R1))) hD
        have hF9 := wk_F (wk_LD hDa) hS hA
        refine cp_V (n := 0) [] hC (t_N_thrown l D cM cG cI cJ r rr ra th1 u1 off1 nm1 ng1 now1 F1 R1) ⟨kc_N_thrown, kn_N, k_L_65, ki_N_thrown, kv_N_thrown⟩ (by decide +kernel) ⟨rfl, rfl, Nat.le_of_ble_eq_true rfl, Nat.le_of_ble_eq_true rfl⟩ x_0 (yt_Y D cM cG cI cJ) hY (wk_L hPa) (va_recv hK (wk_L hPa) (ci := 3) (q0 := 0) rfl rfl) rfl hl.1 rfl (Nat.le_of_ble_eq_true rfl) d_L_law_200 ⟨by show 25 + 200 * j + 2 + 0 + 0 ≤ room_1.cells; have := rs_c; omega, by show 3432 + 1400 * j + 26 + 0 + 0 ≤ room_1.slots; have := rs_s; omega⟩ (fun r2 h2 => ?_)
        rw [h2]
        clear hPa hDa hF9 h2
        refine lv_iload hx hb d_L_law_203 (lv_at hl 1 rfl) ?_
        refine lv_icmp_eq (tgt := 210) hx hb d_L_law_205 (by decide) (fun _ => ?_) (fun c3 => absurd hr1.symm c3)
        refine lv_iload hx hb d_L_law_210 (lv_at hl 1 rfl) ?_
        refine lv_if_ne (tgt := 227) hx hb d_L_law_212 (by decide) (fun c4 => ?_) (fun c4 => ?_)
        · refine lv_goto (tgt := 880) hx hb d_L_law_227 (by decide) ?_
          refine lv_iinc (v := nI (i + 7)) (lv' := [(4, .int (nI (i + 7))), (6, .int v1), (5, .int r1), (0, .ref b), (1, .ref o), (2, .ref r), (3, .ref q)]) hx hb d_L_law_880 hl (k := 6) rfl (nI_add i 7) (by decide) rfl (fun ls hl => ?_)
          refine lv_goto (tgt := 33) hx hb d_L_law_883 (by decide) ?_
          refine W.widen (k := 25 + 200 * (j + 1)) (n := 3432 + 1400 * (j + 1)) (by omega) (by omega) ?_
          exact ih (i + 7) (j + 1) t9 off1 nm1 ng1 now1 F1 R1 pm1 pg1 th1 u1 f1 _ _ _ (by omega) (by omega) (by omega) hI1 hSr1 hP hD hS (lv_sub hl [3, 4, 5, 6, 0] rfl)
        · refine lv_aload_n hx hb d_L_law_215 rfl (lv_at hl 5 rfl) ?_
          refine lv_iconst (v := 0) hx hb d_L_law_216 (by decide) ?_
          refine va_lald hx hb hK hP 0 3 rfl rfl vi_01 d_L_law_217 ?_
          refine lv_iload hx hb d_L_law_218 (lv_at hl 0 rfl) ?_
          refine lv_i2l (v := v1.toInt64) hx hb d_L_law_220 rfl ?_
          refine W.lcmp hx hb d_L_law_221 ?_
          refine lv_if_eq (tgt := 227) hx hb d_L_law_222 (by decide) (fun _ => ?_) (fun c5 => absurd ((lg_cmp_eq _ _).mpr (hv1 (hr1.symm.trans c4))) c5)
          refine lv_goto (tgt := 880) hx hb d_L_law_227 (by decide) ?_
          refine lv_iinc (v := nI (i + 7)) (lv' := [(4, .int (nI (i + 7))), (6, .int v1), (5, .int r1), (0, .ref b), (1, .ref o), (2, .ref r), (3, .ref q)]) hx hb d_L_law_880 hl (k := 6) rfl (nI_add i 7) (by decide) rfl (fun ls hl => ?_)
          refine lv_goto (tgt := 33) hx hb d_L_law_883 (by decide) ?_
          refine W.widen (k := 25 + 200 * (j + 1)) (n := 3432 + 1400 * (j + 1)) (by omega) (by omega) ?_
          exact ih (i + 7) (j + 1) t9 off1 nm1 ng1 now1 F1 R1 pm1 pg1 th1 u1 f1 _ _ _ (by omega) (by omega) (by omega) hI1 hSr1 hP hD hS (lv_sub hl [3, 4, 5, 6, 0] rfl)
      · by_cases e6 : ((xs i) &&& 15) = 1
        · refine sk_as e6 ?_
          refine lv_tableIn (off := 180) (tgt := 230) hx hb d_L_law_50 (by decide) (by decide) rfl (by decide) ?_
          refine lv_aload_n hx hb d_L_law_230 rfl (lv_at hl 1 rfl) ?_
          refine lv_aload_n hx hb d_L_law_231 rfl (lv_at hl 0 rfl) ?_
          refine lv_iload hx hb d_L_law_232 (lv_at hl 4 rfl) ?_
          refine lv_iconst (v := 1) hx hb d_L_law_234 (by decide) ?_
          refine lv_iadd hx hb d_L_law_235 ?_
          refine sk_as (y := nI (i + 1)) (nI_add (i) 1) ?_
          refine lw_ld hx hb hX hbl hbA hS (show i + 1 < L by omega) hL d_L_law_236 ?_
          refine lv_aload_n hx hb d_L_law_237 rfl (lv_at hl 0 rfl) ?_
          refine lv_iload hx hb d_L_law_238 (lv_at hl 4 rfl) ?_
          refine lv_iconst (v := 2) hx hb d_L_law_240 (by decide) ?_
          refine lv_iadd hx hb d_L_law_241 ?_
          refine sk_as (y := nI (i + 2)) (nI_add (i) 2) ?_
          refine lw_ld hx hb hX hbl hbA hS (show i + 2 < L by omega) hL d_L_law_242 ?_
          refine lv_aload_n hx hb d_L_law_243 rfl (lv_at hl 0 rfl) ?_
          refine lv_iload hx hb d_L_law_244 (lv_at hl 4 rfl) ?_
          refine lv_iconst (v := 3) hx hb d_L_law_246 (by decide) ?_
          refine lv_iadd hx hb d_L_law_247 ?_
          refine sk_as (y := nI (i + 3)) (nI_add (i) 3) ?_
          refine lw_ld hx hb hX hbl hbA hS (show i + 3 < L by omega) hL d_L_law_248 ?_
          refine lv_aload_n hx hb d_L_law_249 rfl (lv_at hl 3 rfl) ?_
          have hPa : va_P D cl_L (((q, .inl (cJ, 1, .inr (.inl f))) :: ws_C cM cG o am ag pm pg (off, nm, ng, now, F, R)) ++ ws_N cI r rr ra th Sr (off, nm, ng, now, F, R)) H := hP
          have hDa : va_D A (((q, .inl (cJ, 1, .inr (.inl f))) :: ws_C cM cG o am ag pm pg (off, nm, ng, now, F, R)) ++ ws_N cI r rr ra th Sr (off, nm, ng, now, F, R)) := hD
          have hF9 := wk_F (wk_LD hDa) hS hA
          refine cm_SW (n := 5) [.ref o, .int (xs (i + 1)), .int (xs (i + 2)), .int (xs (i + 3)), .ref q] hC (t_L_arrive l D cM cG cI cJ o am ag pm pg off nm ng now F R q f _ (xs (i + 1)) (xs (i + 2)) (xs (i + 3)) hl0 t9 hI) ⟨kw_L_arrive, kn_L, k_L_69, ks_L_arrive⟩ (by decide +kernel) ⟨rfl, rfl, Nat.le_of_ble_eq_true rfl, Nat.le_of_ble_eq_true rfl⟩ sz_2 (yt_Y D cM cG cI cJ) hY ⟨sx_k hXs hS hF9, sa_k hXa hS hF9⟩ (wk_L hPa) (wk_T (wk_LD hDa)) hS hF9 rfl hl.1 rfl (Nat.le_of_ble_eq_true rfl) d_L_law_250 ⟨by show 25 + 200 * j + 2 ≤ room_1.cells; have := rs_c; omega, by show 3432 + 1400 * j + 14 ≤ room_1.slots; have := rs_s; omega⟩ (fun r1 u H1 locs1 hw9 hP1 hD1 hz9 hk9 hS1 => ?_)
          obtain ⟨pg1, f1⟩ := u
          have hw9 : r1 = (sp_ar (off, nm, ng, now, F, R) (xs (i + 1)) (xs (i + 2)) (xs (i + 3))).1 ∧ ((sp_ar (off, nm, ng, now, F, R) (xs (i + 1)) (xs (i + 2)) (xs (i + 3))).1 = 0 → f1 0 = ((sp_ar (off, nm, ng, now, F, R) (xs (i + 1)) (xs (i + 2)) (xs (i + 3))).2.1).toInt64) := hw9
          obtain ⟨hP2, hD2⟩ := jn_L hPa hDa hk9 hF9 hP1 hD1
          have hP : va_P D cl_L ((q, .inl (cJ, 1, .inr (.inl f1))) :: (ws_C cM cG o am ag pm pg1 (sp_ar (off, nm, ng, now, F, R) (xs (i + 1)) (xs (i + 2)) (xs (i + 3))).2.2 ++ ws_N cI r rr ra th Sr (off, nm, ng, now, F, R))) H1 := hP2
          have hD : va_D A ((q, .inl (cJ, 1, .inr (.inl f1))) :: (ws_C cM cG o am ag pm pg1 (sp_ar (off, nm, ng, now, F, R) (xs (i + 1)) (xs (i + 2)) (xs (i + 3))).2.2 ++ ws_N cI r rr ra th Sr (off, nm, ng, now, F, R))) := hD2
          have hS := hS1
          clear hPa hDa hF9 hP1 hD1 hP2 hD2 hS1 hk9 hz9
          refine lv_istore (lv' := [(5, .int r1), (0, .ref b), (1, .ref o), (2, .ref r), (3, .ref q), (4, .int (nI i))]) hx hb d_L_law_253 hl (by decide) rfl (fun ls hl => ?_)
          refine lv_aload_n hx hb d_L_law_255 rfl (lv_at hl 3 rfl) ?_
          refine lv_aload_n hx hb d_L_law_256 rfl (lv_at hl 1 rfl) ?_
          refine lv_iload hx hb d_L_law_257 (lv_at hl 5 rfl) ?_
          refine lv_iconst (v := 1) hx hb d_L_law_259 (by decide) ?_
          refine lv_iadd hx hb d_L_law_260 ?_
          refine sk_as (y := nI (i + 1)) (nI_add (i) 1) ?_
          refine lw_ld hx hb hX hbl hbA hS (show i + 1 < L by omega) hL d_L_law_261 ?_
          refine lv_aload_n hx hb d_L_law_262 rfl (lv_at hl 1 rfl) ?_
          refine lv_iload hx hb d_L_law_263 (lv_at hl 5 rfl) ?_
          refine lv_iconst (v := 2) hx hb d_L_law_265 (by decide) ?_
          refine lv_iadd hx hb d_L_law_266 ?_
          refine sk_as (y := nI (i + 2)) (nI_add (i) 2) ?_
          refine lw_ld hx hb hX hbl hbA hS (show i + 2 < L by omega) hL d_L_law_267 ?_
          refine lv_aload_n hx hb d_L_law_268 rfl (lv_at hl 1 rfl) ?_
          refine lv_iload hx hb d_L_law_269 (lv_at hl 5 rfl) ?_
          refine lv_iconst (v := 3) hx hb d_L_law_271 (by decide) ?_
          refine lv_iadd hx hb d_L_law_272 ?_
          refine sk_as (y := nI (i + 3)) (nI_add (i) 3) ?_
          refine lw_ld hx hb hX hbl hbA hS (show i + 3 < L by omega) hL d_L_law_273 ?_
          have hPa : va_P D cl_L (ws_N cI r rr ra th Sr (off, nm, ng, now, F, R) ++ ((q, .inl (cJ, 1, .inr (.inl f1))) :: ws_C cM cG o am ag pm pg1 (sp_ar (off, nm, ng, now, F, R) (xs (i + 1)) (xs (i + 2)) (xs (i + 3))).2.2)) H1 := wk_sw (wa := ((q, .inl (cJ, 1, .inr (.inl f1))) :: ws_C cM cG o am ag pm pg1 (sp_ar (off, nm, ng, now, F, R) (xs (i + 1)) (xs (i + 2)) (xs (i + 3))).2.2)) hP
          have hDa : va_D A (ws_N cI r rr ra th Sr (off, nm, ng, now, F, R) ++ ((q, .inl (cJ, 1, .inr (.inl f1))) :: ws_C cM cG o am ag pm pg1 (sp_ar (off, nm, ng, now, F, R) (xs (i + 1)) (xs (i + 2)) (xs (i + 3))).2.2)) := wk_swD (wa := ((q, .inl (cJ, 1, .inr (.inl f1))) :: ws_C cM cG o am ag pm pg1 (sp_ar (off, nm, ng, now, F, R) (xs (i + 1)) (xs (i + 2)) (xs (i + 3))).2.2)) hD
          have hF9 := wk_F (wk_LD hDa) hS hA
          refine cm_Vi (n := 3) [.int (xs (i + 1)), .int (xs (i + 2)), .int (xs (i + 3))] hC (t_N_arrive l D cM cG cI cJ r rr ra th Sr off nm ng now F R _ (xs (i + 1)) (xs (i + 2)) (xs (i + 3)) t9 hI hSr) ⟨kc_N_arrive, kn_N, k_L_72, ki_N_arrive, kv_N_arrive⟩ (by decide +kernel) ⟨rfl, rfl, Nat.le_of_ble_eq_true rfl, Nat.le_of_ble_eq_true rfl⟩ x_0 (yt_Y D cM cG cI cJ) hY trivial (va_recv hK (wk_L hPa) (ci := 3) (q0 := 0) rfl rfl) (wk_L hPa) (wk_T (wk_LD hDa)) hS hF9 rfl hl.1 rfl (Nat.le_of_ble_eq_true rfl) d_L_law_274 ⟨by show 25 + 200 * j + 2 + 0 ≤ room_1.cells; have := rs_c; omega, by show 3432 + 1400 * j + 14 + 0 ≤ room_1.slots; have := rs_s; omega⟩ (fun v1 u1 H2 locs2 hv9 hP1 hD1 hz9 hk9 hS1 => ?_)
          obtain ⟨hP2, hD2⟩ := jn_L hPa hDa hk9 hF9 hP1 hD1
          replace hP2 := wk_sw hP2
          replace hD2 := wk_swD hD2
          have hP : va_P D cl_L ((q, .inl (cJ, 1, .inr (.inl f1))) :: (ws_C cM cG o am ag pm pg1 (sp_ar (off, nm, ng, now, F, R) (xs (i + 1)) (xs (i + 2)) (xs (i + 3))).2.2 ++ ws_N cI r rr ra ((sp_ar (off, nm, ng, now, F, R) (xs (i + 1)) (xs (i + 2)) (xs (i + 3))).1) u1 (sp_ar (off, nm, ng, now, F, R) (xs (i + 1)) (xs (i + 2)) (xs (i + 3))).2.2)) H2 := hP2
          have hD : va_D A ((q, .inl (cJ, 1, .inr (.inl f1))) :: (ws_C cM cG o am ag pm pg1 (sp_ar (off, nm, ng, now, F, R) (xs (i + 1)) (xs (i + 2)) (xs (i + 3))).2.2 ++ ws_N cI r rr ra ((sp_ar (off, nm, ng, now, F, R) (xs (i + 1)) (xs (i + 2)) (xs (i + 3))).1) u1 (sp_ar (off, nm, ng, now, F, R) (xs (i + 1)) (xs (i + 2)) (xs (i + 3))).2.2)) := hD2
          have hS := hS1
          clear hPa hDa hF9 hP1 hD1 hP2 hD2 hS1 hk9 hz9
          obtain ⟨th1, hth1⟩ : ∃ th1 : Int32, th1 = (sp_ar (off, nm, ng, now, F, R) (xs (i + 1)) (xs (i + 2)) (xs (i + 3))).1 := ⟨_, rfl⟩
          have hr1 : r1 = th1 := hw9.1.trans hth1.symm
          have hv1 : th1 = 0 → f1 0 = v1.toInt64 := fun z => by rw [hv9.1 (hth1.symm.trans z)]; exact hw9.2 (hth1.symm.trans z)
          obtain ⟨σ1, hσ1⟩ : ∃ σ1 : st_T, σ1 = (sp_ar (off, nm, ng, now, F, R) (xs (i + 1)) (xs (i + 2)) (xs (i + 3))).2.2 := ⟨_, rfl⟩
          have hI1 : iv_S t9 σ1 := by rw [hσ1]; exact kp_ar hI (xs (i + 1)) (xs (i + 2)) (xs (i + 3))
          have hSr1 : sr_P u1 σ1 := by rw [hσ1]; exact hv9.2
          rw [← hσ1, ← hth1] at hP hD
          clear hσ1
          obtain ⟨off1, nm1, ng1, now1, F1, R1⟩ := σ1
          refine lv_istore (lv' := [(6, .int v1), (5, .int r1), (0, .ref b), (1, .ref o), (2, .ref r), (3, .ref q), (4, .int (nI i))]) hx hb d_L_law_277 hl (by decide) rfl (fun ls hl => ?_)
          refine lv_aload_n hx hb d_L_law_279 rfl (lv_at hl 4 rfl) ?_
          have hPa : va_P D cl_L (ws_N cI r rr ra th1 u1 (off1, nm1, ng1, now1, F1, R1) ++ ((q, .inl (cJ, 1, .inr (.inl f1))) :: ws_C cM cG o am ag pm pg1 (off1, nm1, ng1, now1, F1, R1))) H2 := wk_sw (wa := ((q, .inl (cJ, 1, .inr (.inl f1))) :: ws_C cM cG o am ag pm pg1 (off1, nm1, ng1, now1, F1, R1))) hP
          have hDa : va_D A (ws_N cI r rr ra th1 u1 (off1, nm1, ng1, now1, F1, R1) ++ ((q, .inl (cJ, 1, .inr (.inl f1))) :: ws_C cM cG o am ag pm pg1 (off1, nm1, ng1, now1, F1, R1))) := wk_swD (wa := ((q, .inl (cJ, 1, .inr (.inl f1))) :: ws_C cM cG o am ag pm pg1 (off1, nm1, ng1, now1, F1, R1))) hD
          have hF9 := wk_F (wk_LD hDa) hS hA
          refine cp_V (n := 0) [] hC (t_N_thrown l D cM cG cI cJ r rr ra th1 u1 off1 nm1 ng1 now1 F1 R1) ⟨kc_N_thrown, kn_N, k_L_65, ki_N_thrown, kv_N_thrown⟩ (by decide +kernel) ⟨rfl, rfl, Nat.le_of_ble_eq_true rfl, Nat.le_of_ble_eq_true rfl⟩ x_0 (yt_Y D cM cG cI cJ) hY (wk_L hPa) (va_recv hK (wk_L hPa) (ci := 3) (q0 := 0) rfl rfl) rfl hl.1 rfl (Nat.le_of_ble_eq_true rfl) d_L_law_280 ⟨by show 25 + 200 * j + 2 + 0 + 0 ≤ room_1.cells; have := rs_c; omega, by show 3432 + 1400 * j + 14 + 0 + 0 ≤ room_1.slots; have := rs_s; omega⟩ (fun r2 h2 => ?_)
          rw [h2]
          clear hPa hDa hF9 h2
          refine lv_iload hx hb d_L_law_283 (lv_at hl 1 rfl) ?_
          refine lv_icmp_eq (tgt := 290) hx hb d_L_law_285 (by decide) (fun _ => ?_) (fun c7 => absurd hr1.symm c7)
          refine lv_iload hx hb d_L_law_290 (lv_at hl 1 rfl) ?_
          refine lv_if_ne (tgt := 307) hx hb d_L_law_292 (by decide) (fun c8 => ?_) (fun c8 => ?_)
          · refine lv_goto (tgt := 880) hx hb d_L_law_307 (by decide) ?_
            refine lv_iinc (v := nI (i + 7)) (lv' := [(4, .int (nI (i + 7))), (6, .int v1), (5, .int r1), (0, .ref b), (1, .ref o), (2, .ref r), (3, .ref q)]) hx hb d_L_law_880 hl (k := 6) rfl (nI_add i 7) (by decide) rfl (fun ls hl => ?_)
            refine lv_goto (tgt := 33) hx hb d_L_law_883 (by decide) ?_
            refine W.widen (k := 25 + 200 * (j + 1)) (n := 3432 + 1400 * (j + 1)) (by omega) (by omega) ?_
            exact ih (i + 7) (j + 1) t9 off1 nm1 ng1 now1 F1 R1 pm pg1 th1 u1 f1 _ _ _ (by omega) (by omega) (by omega) hI1 hSr1 hP hD hS (lv_sub hl [3, 4, 5, 6, 0] rfl)
          · refine lv_aload_n hx hb d_L_law_295 rfl (lv_at hl 5 rfl) ?_
            refine lv_iconst (v := 0) hx hb d_L_law_296 (by decide) ?_
            refine va_lald hx hb hK hP 0 3 rfl rfl vi_01 d_L_law_297 ?_
            refine lv_iload hx hb d_L_law_298 (lv_at hl 0 rfl) ?_
            refine lv_i2l (v := v1.toInt64) hx hb d_L_law_300 rfl ?_
            refine W.lcmp hx hb d_L_law_301 ?_
            refine lv_if_eq (tgt := 307) hx hb d_L_law_302 (by decide) (fun _ => ?_) (fun c9 => absurd ((lg_cmp_eq _ _).mpr (hv1 (hr1.symm.trans c8))) c9)
            refine lv_goto (tgt := 880) hx hb d_L_law_307 (by decide) ?_
            refine lv_iinc (v := nI (i + 7)) (lv' := [(4, .int (nI (i + 7))), (6, .int v1), (5, .int r1), (0, .ref b), (1, .ref o), (2, .ref r), (3, .ref q)]) hx hb d_L_law_880 hl (k := 6) rfl (nI_add i 7) (by decide) rfl (fun ls hl => ?_)
            refine lv_goto (tgt := 33) hx hb d_L_law_883 (by decide) ?_
            refine W.widen (k := 25 + 200 * (j + 1)) (n := 3432 + 1400 * (j + 1)) (by omega) (by omega) ?_
            exact ih (i + 7) (j + 1) t9 off1 nm1 ng1 now1 F1 R1 pm pg1 th1 u1 f1 _ _ _ (by omega) (by omega) (by omega) hI1 hSr1 hP hD hS (lv_sub hl [3, 4, 5, 6, 0] rfl)
        · by_cases e10 : ((xs i) &&& 15) = 2
          · refine sk_as e10 ?_
            refine lv_tableIn (off := 260) (tgt := 310) hx hb d_L_law_50 (by decide) (by decide) rfl (by decide) ?_
            refine lv_aload_n hx hb d_L_law_310 rfl (lv_at hl 1 rfl) ?_
            refine lv_aload_n hx hb d_L_law_311 rfl (lv_at hl 0 rfl) ?_
            refine lv_iload hx hb d_L_law_312 (lv_at hl 4 rfl) ?_
            refine lv_iconst (v := 1) hx hb d_L_law_314 (by decide) ?_
            refine lv_iadd hx hb d_L_law_315 ?_
            refine sk_as (y := nI (i + 1)) (nI_add (i) 1) ?_
            refine lw_ld hx hb hX hbl hbA hS (show i + 1 < L by omega) hL d_L_law_316 ?_
            refine lv_aload_n hx hb d_L_law_317 rfl (lv_at hl 0 rfl) ?_
            refine lv_iload hx hb d_L_law_318 (lv_at hl 4 rfl) ?_
            refine lv_iconst (v := 2) hx hb d_L_law_320 (by decide) ?_
            refine lv_iadd hx hb d_L_law_321 ?_
            refine sk_as (y := nI (i + 2)) (nI_add (i) 2) ?_
            refine lw_ld hx hb hX hbl hbA hS (show i + 2 < L by omega) hL d_L_law_322 ?_
            refine lv_aload_n hx hb d_L_law_323 rfl (lv_at hl 3 rfl) ?_
            have hPa : va_P D cl_L (((q, .inl (cJ, 1, .inr (.inl f))) :: ws_C cM cG o am ag pm pg (off, nm, ng, now, F, R)) ++ ws_N cI r rr ra th Sr (off, nm, ng, now, F, R)) H := hP
            have hDa : va_D A (((q, .inl (cJ, 1, .inr (.inl f))) :: ws_C cM cG o am ag pm pg (off, nm, ng, now, F, R)) ++ ws_N cI r rr ra th Sr (off, nm, ng, now, F, R)) := hD
            have hF9 := wk_F (wk_LD hDa) hS hA
            refine cm_SW (n := 4) [.ref o, .int (xs (i + 1)), .int (xs (i + 2)), .ref q] hC (t_L_control l D cM cG cI cJ o am ag pm pg off nm ng now F R q f _ (xs (i + 1)) (xs (i + 2)) hl0 t9 hI) ⟨kw_L_control, kn_L, k_L_73, ks_L_control⟩ (by decide +kernel) ⟨rfl, rfl, Nat.le_of_ble_eq_true rfl, Nat.le_of_ble_eq_true rfl⟩ sz_2 (yt_Y D cM cG cI cJ) hY ⟨sx_k hXs hS hF9, sa_k hXa hS hF9⟩ (wk_L hPa) (wk_T (wk_LD hDa)) hS hF9 rfl hl.1 rfl (Nat.le_of_ble_eq_true rfl) d_L_law_324 ⟨by show 25 + 200 * j + 1 ≤ room_1.cells; have := rs_c; omega, by show 3432 + 1400 * j + 7 ≤ room_1.slots; have := rs_s; omega⟩ (fun r1 u H1 locs1 hw9 hP1 hD1 hz9 hk9 hS1 => ?_)
            obtain ⟨pg1, f1⟩ := u
            have hw9 : r1 = (sp_co (off, nm, ng, now, F, R) (xs (i + 1)) (xs (i + 2))).1 ∧ ((sp_co (off, nm, ng, now, F, R) (xs (i + 1)) (xs (i + 2))).1 = 0 → f1 0 = ((sp_co (off, nm, ng, now, F, R) (xs (i + 1)) (xs (i + 2))).2.1).toInt64) := hw9
            obtain ⟨hP2, hD2⟩ := jn_L hPa hDa hk9 hF9 hP1 hD1
            have hP : va_P D cl_L ((q, .inl (cJ, 1, .inr (.inl f1))) :: (ws_C cM cG o am ag pm pg1 (sp_co (off, nm, ng, now, F, R) (xs (i + 1)) (xs (i + 2))).2.2 ++ ws_N cI r rr ra th Sr (off, nm, ng, now, F, R))) H1 := hP2
            have hD : va_D A ((q, .inl (cJ, 1, .inr (.inl f1))) :: (ws_C cM cG o am ag pm pg1 (sp_co (off, nm, ng, now, F, R) (xs (i + 1)) (xs (i + 2))).2.2 ++ ws_N cI r rr ra th Sr (off, nm, ng, now, F, R))) := hD2
            have hS := hS1
            clear hPa hDa hF9 hP1 hD1 hP2 hD2 hS1 hk9 hz9
            refine lv_istore (lv' := [(5, .int r1), (0, .ref b), (1, .ref o), (2, .ref r), (3, .ref q), (4, .int (nI i))]) hx hb d_L_law_327 hl (by decide) rfl (fun ls hl => ?_)
            refine lv_aload_n hx hb d_L_law_329 rfl (lv_at hl 3 rfl) ?_
            refine lv_aload_n hx hb d_L_law_330 rfl (lv_at hl 1 rfl) ?_
            refine lv_iload hx hb d_L_law_331 (lv_at hl 5 rfl) ?_
            refine lv_iconst (v := 1) hx hb d_L_law_333 (by decide) ?_
            refine lv_iadd hx hb d_L_law_334 ?_
            refine sk_as (y := nI (i + 1)) (nI_add (i) 1) ?_
            refine lw_ld hx hb hX hbl hbA hS (show i + 1 < L by omega) hL d_L_law_335 ?_
            refine lv_aload_n hx hb d_L_law_336 rfl (lv_at hl 1 rfl) ?_
            refine lv_iload hx hb d_L_law_337 (lv_at hl 5 rfl) ?_
            refine lv_iconst (v := 2) hx hb d_L_law_339 (by decide) ?_
            refine lv_iadd hx hb d_L_law_340 ?_
            refine sk_as (y := nI (i + 2)) (nI_add (i) 2) ?_
            refine lw_ld hx hb hX hbl hbA hS (show i + 2 < L by omega) hL d_L_law_341 ?_
            have hPa : va_P D cl_L (ws_N cI r rr ra th Sr (off, nm, ng, now, F, R) ++ ((q, .inl (cJ, 1, .inr (.inl f1))) :: ws_C cM cG o am ag pm pg1 (sp_co (off, nm, ng, now, F, R) (xs (i + 1)) (xs (i + 2))).2.2)) H1 := wk_sw (wa := ((q, .inl (cJ, 1, .inr (.inl f1))) :: ws_C cM cG o am ag pm pg1 (sp_co (off, nm, ng, now, F, R) (xs (i + 1)) (xs (i + 2))).2.2)) hP
            have hDa : va_D A (ws_N cI r rr ra th Sr (off, nm, ng, now, F, R) ++ ((q, .inl (cJ, 1, .inr (.inl f1))) :: ws_C cM cG o am ag pm pg1 (sp_co (off, nm, ng, now, F, R) (xs (i + 1)) (xs (i + 2))).2.2)) := wk_swD (wa := ((q, .inl (cJ, 1, .inr (.inl f1))) :: ws_C cM cG o am ag pm pg1 (sp_co (off, nm, ng, now, F, R) (xs (i + 1)) (xs (i + 2))).2.2)) hD
            have hF9 := wk_F (wk_LD hDa) hS hA
            refine cm_Vi (n := 2) [.int (xs (i + 1)), .int (xs (i + 2))] hC (t_N_control l D cM cG cI cJ r rr ra th Sr off nm ng now F R _ (xs (i + 1)) (xs (i + 2)) t9 hI hSr) ⟨kc_N_control, kn_N, k_L_76, ki_N_control, kv_N_control⟩ (by decide +kernel) ⟨rfl, rfl, Nat.le_of_ble_eq_true rfl, Nat.le_of_ble_eq_true rfl⟩ x_0 (yt_Y D cM cG cI cJ) hY trivial (va_recv hK (wk_L hPa) (ci := 3) (q0 := 0) rfl rfl) (wk_L hPa) (wk_T (wk_LD hDa)) hS hF9 rfl hl.1 rfl (Nat.le_of_ble_eq_true rfl) d_L_law_342 ⟨by show 25 + 200 * j + 1 + 0 ≤ room_1.cells; have := rs_c; omega, by show 3432 + 1400 * j + 7 + 0 ≤ room_1.slots; have := rs_s; omega⟩ (fun v1 u1 H2 locs2 hv9 hP1 hD1 hz9 hk9 hS1 => ?_)
            obtain ⟨hP2, hD2⟩ := jn_L hPa hDa hk9 hF9 hP1 hD1
            replace hP2 := wk_sw hP2
            replace hD2 := wk_swD hD2
            have hP : va_P D cl_L ((q, .inl (cJ, 1, .inr (.inl f1))) :: (ws_C cM cG o am ag pm pg1 (sp_co (off, nm, ng, now, F, R) (xs (i + 1)) (xs (i + 2))).2.2 ++ ws_N cI r rr ra ((sp_co (off, nm, ng, now, F, R) (xs (i + 1)) (xs (i + 2))).1) u1 (sp_co (off, nm, ng, now, F, R) (xs (i + 1)) (xs (i + 2))).2.2)) H2 := hP2
            have hD : va_D A ((q, .inl (cJ, 1, .inr (.inl f1))) :: (ws_C cM cG o am ag pm pg1 (sp_co (off, nm, ng, now, F, R) (xs (i + 1)) (xs (i + 2))).2.2 ++ ws_N cI r rr ra ((sp_co (off, nm, ng, now, F, R) (xs (i + 1)) (xs (i + 2))).1) u1 (sp_co (off, nm, ng, now, F, R) (xs (i + 1)) (xs (i + 2))).2.2)) := hD2
            have hS := hS1
            clear hPa hDa hF9 hP1 hD1 hP2 hD2 hS1 hk9 hz9
            obtain ⟨th1, hth1⟩ : ∃ th1 : Int32, th1 = (sp_co (off, nm, ng, now, F, R) (xs (i + 1)) (xs (i + 2))).1 := ⟨_, rfl⟩
            have hr1 : r1 = th1 := hw9.1.trans hth1.symm
            have hv1 : th1 = 0 → f1 0 = v1.toInt64 := fun z => by rw [hv9.1 (hth1.symm.trans z)]; exact hw9.2 (hth1.symm.trans z)
            obtain ⟨σ1, hσ1⟩ : ∃ σ1 : st_T, σ1 = (sp_co (off, nm, ng, now, F, R) (xs (i + 1)) (xs (i + 2))).2.2 := ⟨_, rfl⟩
            have hI1 : iv_S t9 σ1 := by rw [hσ1]; exact kp_co hI (xs (i + 1)) (xs (i + 2))
            have hSr1 : sr_P u1 σ1 := by rw [hσ1]; exact hv9.2
            rw [← hσ1, ← hth1] at hP hD
            clear hσ1
            obtain ⟨off1, nm1, ng1, now1, F1, R1⟩ := σ1
            refine lv_istore (lv' := [(6, .int v1), (5, .int r1), (0, .ref b), (1, .ref o), (2, .ref r), (3, .ref q), (4, .int (nI i))]) hx hb d_L_law_345 hl (by decide) rfl (fun ls hl => ?_)
            refine lv_aload_n hx hb d_L_law_347 rfl (lv_at hl 4 rfl) ?_
            have hPa : va_P D cl_L (ws_N cI r rr ra th1 u1 (off1, nm1, ng1, now1, F1, R1) ++ ((q, .inl (cJ, 1, .inr (.inl f1))) :: ws_C cM cG o am ag pm pg1 (off1, nm1, ng1, now1, F1, R1))) H2 := wk_sw (wa := ((q, .inl (cJ, 1, .inr (.inl f1))) :: ws_C cM cG o am ag pm pg1 (off1, nm1, ng1, now1, F1, R1))) hP
            have hDa : va_D A (ws_N cI r rr ra th1 u1 (off1, nm1, ng1, now1, F1, R1) ++ ((q, .inl (cJ, 1, .inr (.inl f1))) :: ws_C cM cG o am ag pm pg1 (off1, nm1, ng1, now1, F1, R1))) := wk_swD (wa := ((q, .inl (cJ, 1, .inr (.inl f1))) :: ws_C cM cG o am ag pm pg1 (off1, nm1, ng1, now1, F1, R1))) hD
            have hF9 := wk_F (wk_LD hDa) hS hA
            refine cp_V (n := 0) [] hC (t_N_thrown l D cM cG cI cJ r rr ra th1 u1 off1 nm1 ng1 now1 F1 R1) ⟨kc_N_thrown, kn_N, k_L_65, ki_N_thrown, kv_N_thrown⟩ (by decide +kernel) ⟨rfl, rfl, Nat.le_of_ble_eq_true rfl, Nat.le_of_ble_eq_true rfl⟩ x_0 (yt_Y D cM cG cI cJ) hY (wk_L hPa) (va_recv hK (wk_L hPa) (ci := 3) (q0 := 0) rfl rfl) rfl hl.1 rfl (Nat.le_of_ble_eq_true rfl) d_L_law_348 ⟨by show 25 + 200 * j + 1 + 0 + 0 ≤ room_1.cells; have := rs_c; omega, by show 3432 + 1400 * j + 7 + 0 + 0 ≤ room_1.slots; have := rs_s; omega⟩ (fun r2 h2 => ?_)
            rw [h2]
            clear hPa hDa hF9 h2
            refine lv_iload hx hb d_L_law_351 (lv_at hl 1 rfl) ?_
            refine lv_icmp_eq (tgt := 358) hx hb d_L_law_353 (by decide) (fun _ => ?_) (fun c11 => absurd hr1.symm c11)
            refine lv_iload hx hb d_L_law_358 (lv_at hl 1 rfl) ?_
            refine lv_if_ne (tgt := 375) hx hb d_L_law_360 (by decide) (fun c12 => ?_) (fun c12 => ?_)
            · refine lv_goto (tgt := 880) hx hb d_L_law_375 (by decide) ?_
              refine lv_iinc (v := nI (i + 7)) (lv' := [(4, .int (nI (i + 7))), (6, .int v1), (5, .int r1), (0, .ref b), (1, .ref o), (2, .ref r), (3, .ref q)]) hx hb d_L_law_880 hl (k := 6) rfl (nI_add i 7) (by decide) rfl (fun ls hl => ?_)
              refine lv_goto (tgt := 33) hx hb d_L_law_883 (by decide) ?_
              refine W.widen (k := 25 + 200 * (j + 1)) (n := 3432 + 1400 * (j + 1)) (by omega) (by omega) ?_
              exact ih (i + 7) (j + 1) t9 off1 nm1 ng1 now1 F1 R1 pm pg1 th1 u1 f1 _ _ _ (by omega) (by omega) (by omega) hI1 hSr1 hP hD hS (lv_sub hl [3, 4, 5, 6, 0] rfl)
            · refine lv_aload_n hx hb d_L_law_363 rfl (lv_at hl 5 rfl) ?_
              refine lv_iconst (v := 0) hx hb d_L_law_364 (by decide) ?_
              refine va_lald hx hb hK hP 0 3 rfl rfl vi_01 d_L_law_365 ?_
              refine lv_iload hx hb d_L_law_366 (lv_at hl 0 rfl) ?_
              refine lv_i2l (v := v1.toInt64) hx hb d_L_law_368 rfl ?_
              refine W.lcmp hx hb d_L_law_369 ?_
              refine lv_if_eq (tgt := 375) hx hb d_L_law_370 (by decide) (fun _ => ?_) (fun c13 => absurd ((lg_cmp_eq _ _).mpr (hv1 (hr1.symm.trans c12))) c13)
              refine lv_goto (tgt := 880) hx hb d_L_law_375 (by decide) ?_
              refine lv_iinc (v := nI (i + 7)) (lv' := [(4, .int (nI (i + 7))), (6, .int v1), (5, .int r1), (0, .ref b), (1, .ref o), (2, .ref r), (3, .ref q)]) hx hb d_L_law_880 hl (k := 6) rfl (nI_add i 7) (by decide) rfl (fun ls hl => ?_)
              refine lv_goto (tgt := 33) hx hb d_L_law_883 (by decide) ?_
              refine W.widen (k := 25 + 200 * (j + 1)) (n := 3432 + 1400 * (j + 1)) (by omega) (by omega) ?_
              exact ih (i + 7) (j + 1) t9 off1 nm1 ng1 now1 F1 R1 pm pg1 th1 u1 f1 _ _ _ (by omega) (by omega) (by omega) hI1 hSr1 hP hD hS (lv_sub hl [3, 4, 5, 6, 0] rfl)
          · by_cases e14 : ((xs i) &&& 15) = 3
            · refine sk_as e14 ?_
              refine lv_tableIn (off := 328) (tgt := 378) hx hb d_L_law_50 (by decide) (by decide) rfl (by decide) ?_
              refine lv_aload_n hx hb d_L_law_378 rfl (lv_at hl 1 rfl) ?_
              refine lv_aload_n hx hb d_L_law_379 rfl (lv_at hl 0 rfl) ?_
              refine lv_iload hx hb d_L_law_380 (lv_at hl 4 rfl) ?_
              refine lv_iconst (v := 1) hx hb d_L_law_382 (by decide) ?_
              refine lv_iadd hx hb d_L_law_383 ?_
              refine sk_as (y := nI (i + 1)) (nI_add (i) 1) ?_
              refine lw_ld hx hb hX hbl hbA hS (show i + 1 < L by omega) hL d_L_law_384 ?_
              refine lv_aload_n hx hb d_L_law_385 rfl (lv_at hl 0 rfl) ?_
              refine lv_iload hx hb d_L_law_386 (lv_at hl 4 rfl) ?_
              refine lv_iconst (v := 2) hx hb d_L_law_388 (by decide) ?_
              refine lv_iadd hx hb d_L_law_389 ?_
              refine sk_as (y := nI (i + 2)) (nI_add (i) 2) ?_
              refine lw_ld hx hb hX hbl hbA hS (show i + 2 < L by omega) hL d_L_law_390 ?_
              refine lv_aload_n hx hb d_L_law_391 rfl (lv_at hl 3 rfl) ?_
              have hPa : va_P D cl_L (((q, .inl (cJ, 1, .inr (.inl f))) :: ws_C cM cG o am ag pm pg (off, nm, ng, now, F, R)) ++ ws_N cI r rr ra th Sr (off, nm, ng, now, F, R)) H := hP
              have hDa : va_D A (((q, .inl (cJ, 1, .inr (.inl f))) :: ws_C cM cG o am ag pm pg (off, nm, ng, now, F, R)) ++ ws_N cI r rr ra th Sr (off, nm, ng, now, F, R)) := hD
              have hF9 := wk_F (wk_LD hDa) hS hA
              refine cm_SW (n := 4) [.ref o, .int (xs (i + 1)), .int (xs (i + 2)), .ref q] hC (t_L_receive l D cM cG cI cJ o am ag pm pg off nm ng now F R q f _ (xs (i + 1)) (xs (i + 2)) hl0 t9 hI) ⟨kw_L_receive, kn_L, k_L_77, ks_L_receive⟩ (by decide +kernel) ⟨rfl, rfl, Nat.le_of_ble_eq_true rfl, Nat.le_of_ble_eq_true rfl⟩ sz_2 (yt_Y D cM cG cI cJ) hY ⟨sx_k hXs hS hF9, sa_k hXa hS hF9⟩ (wk_L hPa) (wk_T (wk_LD hDa)) hS hF9 rfl hl.1 rfl (Nat.le_of_ble_eq_true rfl) d_L_law_392 ⟨by show 25 + 200 * j + 1 ≤ room_1.cells; have := rs_c; omega, by show 3432 + 1400 * j + 7 ≤ room_1.slots; have := rs_s; omega⟩ (fun r1 u H1 locs1 hw9 hP1 hD1 hz9 hk9 hS1 => ?_)
              obtain ⟨pg1, f1⟩ := u
              have hw9 : r1 = (sp_re (off, nm, ng, now, F, R) (xs (i + 1)) (xs (i + 2))).1 ∧ ((sp_re (off, nm, ng, now, F, R) (xs (i + 1)) (xs (i + 2))).1 = 0 → f1 0 = ((sp_re (off, nm, ng, now, F, R) (xs (i + 1)) (xs (i + 2))).2.1).toInt64) := hw9
              obtain ⟨hP2, hD2⟩ := jn_L hPa hDa hk9 hF9 hP1 hD1
              have hP : va_P D cl_L ((q, .inl (cJ, 1, .inr (.inl f1))) :: (ws_C cM cG o am ag pm pg1 (sp_re (off, nm, ng, now, F, R) (xs (i + 1)) (xs (i + 2))).2.2 ++ ws_N cI r rr ra th Sr (off, nm, ng, now, F, R))) H1 := hP2
              have hD : va_D A ((q, .inl (cJ, 1, .inr (.inl f1))) :: (ws_C cM cG o am ag pm pg1 (sp_re (off, nm, ng, now, F, R) (xs (i + 1)) (xs (i + 2))).2.2 ++ ws_N cI r rr ra th Sr (off, nm, ng, now, F, R))) := hD2
              have hS := hS1
              clear hPa hDa hF9 hP1 hD1 hP2 hD2 hS1 hk9 hz9
              refine lv_istore (lv' := [(5, .int r1), (0, .ref b), (1, .ref o), (2, .ref r), (3, .ref q), (4, .int (nI i))]) hx hb d_L_law_395 hl (by decide) rfl (fun ls hl => ?_)
              refine lv_aload_n hx hb d_L_law_397 rfl (lv_at hl 3 rfl) ?_
              refine lv_aload_n hx hb d_L_law_398 rfl (lv_at hl 1 rfl) ?_
              refine lv_iload hx hb d_L_law_399 (lv_at hl 5 rfl) ?_
              refine lv_iconst (v := 1) hx hb d_L_law_401 (by decide) ?_
              refine lv_iadd hx hb d_L_law_402 ?_
              refine sk_as (y := nI (i + 1)) (nI_add (i) 1) ?_
              refine lw_ld hx hb hX hbl hbA hS (show i + 1 < L by omega) hL d_L_law_403 ?_
              refine lv_aload_n hx hb d_L_law_404 rfl (lv_at hl 1 rfl) ?_
              refine lv_iload hx hb d_L_law_405 (lv_at hl 5 rfl) ?_
              refine lv_iconst (v := 2) hx hb d_L_law_407 (by decide) ?_
              refine lv_iadd hx hb d_L_law_408 ?_
              refine sk_as (y := nI (i + 2)) (nI_add (i) 2) ?_
              refine lw_ld hx hb hX hbl hbA hS (show i + 2 < L by omega) hL d_L_law_409 ?_
              have hPa : va_P D cl_L (ws_N cI r rr ra th Sr (off, nm, ng, now, F, R) ++ ((q, .inl (cJ, 1, .inr (.inl f1))) :: ws_C cM cG o am ag pm pg1 (sp_re (off, nm, ng, now, F, R) (xs (i + 1)) (xs (i + 2))).2.2)) H1 := wk_sw (wa := ((q, .inl (cJ, 1, .inr (.inl f1))) :: ws_C cM cG o am ag pm pg1 (sp_re (off, nm, ng, now, F, R) (xs (i + 1)) (xs (i + 2))).2.2)) hP
              have hDa : va_D A (ws_N cI r rr ra th Sr (off, nm, ng, now, F, R) ++ ((q, .inl (cJ, 1, .inr (.inl f1))) :: ws_C cM cG o am ag pm pg1 (sp_re (off, nm, ng, now, F, R) (xs (i + 1)) (xs (i + 2))).2.2)) := wk_swD (wa := ((q, .inl (cJ, 1, .inr (.inl f1))) :: ws_C cM cG o am ag pm pg1 (sp_re (off, nm, ng, now, F, R) (xs (i + 1)) (xs (i + 2))).2.2)) hD
              have hF9 := wk_F (wk_LD hDa) hS hA
              refine cm_Vi (n := 2) [.int (xs (i + 1)), .int (xs (i + 2))] hC (t_N_receive l D cM cG cI cJ r rr ra th Sr off nm ng now F R _ (xs (i + 1)) (xs (i + 2)) t9 hI hSr) ⟨kc_N_receive, kn_N, k_L_79, ki_N_receive, kv_N_receive⟩ (by decide +kernel) ⟨rfl, rfl, Nat.le_of_ble_eq_true rfl, Nat.le_of_ble_eq_true rfl⟩ x_0 (yt_Y D cM cG cI cJ) hY trivial (va_recv hK (wk_L hPa) (ci := 3) (q0 := 0) rfl rfl) (wk_L hPa) (wk_T (wk_LD hDa)) hS hF9 rfl hl.1 rfl (Nat.le_of_ble_eq_true rfl) d_L_law_410 ⟨by show 25 + 200 * j + 1 + 0 ≤ room_1.cells; have := rs_c; omega, by show 3432 + 1400 * j + 7 + 0 ≤ room_1.slots; have := rs_s; omega⟩ (fun v1 u1 H2 locs2 hv9 hP1 hD1 hz9 hk9 hS1 => ?_)
              obtain ⟨hP2, hD2⟩ := jn_L hPa hDa hk9 hF9 hP1 hD1
              replace hP2 := wk_sw hP2
              replace hD2 := wk_swD hD2
              have hP : va_P D cl_L ((q, .inl (cJ, 1, .inr (.inl f1))) :: (ws_C cM cG o am ag pm pg1 (sp_re (off, nm, ng, now, F, R) (xs (i + 1)) (xs (i + 2))).2.2 ++ ws_N cI r rr ra ((sp_re (off, nm, ng, now, F, R) (xs (i + 1)) (xs (i + 2))).1) u1 (sp_re (off, nm, ng, now, F, R) (xs (i + 1)) (xs (i + 2))).2.2)) H2 := hP2
              have hD : va_D A ((q, .inl (cJ, 1, .inr (.inl f1))) :: (ws_C cM cG o am ag pm pg1 (sp_re (off, nm, ng, now, F, R) (xs (i + 1)) (xs (i + 2))).2.2 ++ ws_N cI r rr ra ((sp_re (off, nm, ng, now, F, R) (xs (i + 1)) (xs (i + 2))).1) u1 (sp_re (off, nm, ng, now, F, R) (xs (i + 1)) (xs (i + 2))).2.2)) := hD2
              have hS := hS1
              clear hPa hDa hF9 hP1 hD1 hP2 hD2 hS1 hk9 hz9
              obtain ⟨th1, hth1⟩ : ∃ th1 : Int32, th1 = (sp_re (off, nm, ng, now, F, R) (xs (i + 1)) (xs (i + 2))).1 := ⟨_, rfl⟩
              have hr1 : r1 = th1 := hw9.1.trans hth1.symm
              have hv1 : th1 = 0 → f1 0 = v1.toInt64 := fun z => by rw [hv9.1 (hth1.symm.trans z)]; exact hw9.2 (hth1.symm.trans z)
              obtain ⟨σ1, hσ1⟩ : ∃ σ1 : st_T, σ1 = (sp_re (off, nm, ng, now, F, R) (xs (i + 1)) (xs (i + 2))).2.2 := ⟨_, rfl⟩
              have hI1 : iv_S t9 σ1 := by rw [hσ1]; exact kp_re hI (xs (i + 1)) (xs (i + 2))
              have hSr1 : sr_P u1 σ1 := by rw [hσ1]; exact hv9.2
              rw [← hσ1, ← hth1] at hP hD
              clear hσ1
              obtain ⟨off1, nm1, ng1, now1, F1, R1⟩ := σ1
              refine lv_istore (lv' := [(6, .int v1), (5, .int r1), (0, .ref b), (1, .ref o), (2, .ref r), (3, .ref q), (4, .int (nI i))]) hx hb d_L_law_413 hl (by decide) rfl (fun ls hl => ?_)
              refine lv_aload_n hx hb d_L_law_415 rfl (lv_at hl 4 rfl) ?_
              have hPa : va_P D cl_L (ws_N cI r rr ra th1 u1 (off1, nm1, ng1, now1, F1, R1) ++ ((q, .inl (cJ, 1, .inr (.inl f1))) :: ws_C cM cG o am ag pm pg1 (off1, nm1, ng1, now1, F1, R1))) H2 := wk_sw (wa := ((q, .inl (cJ, 1, .inr (.inl f1))) :: ws_C cM cG o am ag pm pg1 (off1, nm1, ng1, now1, F1, R1))) hP
              have hDa : va_D A (ws_N cI r rr ra th1 u1 (off1, nm1, ng1, now1, F1, R1) ++ ((q, .inl (cJ, 1, .inr (.inl f1))) :: ws_C cM cG o am ag pm pg1 (off1, nm1, ng1, now1, F1, R1))) := wk_swD (wa := ((q, .inl (cJ, 1, .inr (.inl f1))) :: ws_C cM cG o am ag pm pg1 (off1, nm1, ng1, now1, F1, R1))) hD
              have hF9 := wk_F (wk_LD hDa) hS hA
              refine cp_V (n := 0) [] hC (t_N_thrown l D cM cG cI cJ r rr ra th1 u1 off1 nm1 ng1 now1 F1 R1) ⟨kc_N_thrown, kn_N, k_L_65, ki_N_thrown, kv_N_thrown⟩ (by decide +kernel) ⟨rfl, rfl, Nat.le_of_ble_eq_true rfl, Nat.le_of_ble_eq_true rfl⟩ x_0 (yt_Y D cM cG cI cJ) hY (wk_L hPa) (va_recv hK (wk_L hPa) (ci := 3) (q0 := 0) rfl rfl) rfl hl.1 rfl (Nat.le_of_ble_eq_true rfl) d_L_law_416 ⟨by show 25 + 200 * j + 1 + 0 + 0 ≤ room_1.cells; have := rs_c; omega, by show 3432 + 1400 * j + 7 + 0 + 0 ≤ room_1.slots; have := rs_s; omega⟩ (fun r2 h2 => ?_)
              rw [h2]
              clear hPa hDa hF9 h2
              refine lv_iload hx hb d_L_law_419 (lv_at hl 1 rfl) ?_
              refine lv_icmp_eq (tgt := 426) hx hb d_L_law_421 (by decide) (fun _ => ?_) (fun c15 => absurd hr1.symm c15)
              refine lv_iload hx hb d_L_law_426 (lv_at hl 1 rfl) ?_
              refine lv_if_ne (tgt := 443) hx hb d_L_law_428 (by decide) (fun c16 => ?_) (fun c16 => ?_)
              · refine lv_goto (tgt := 880) hx hb d_L_law_443 (by decide) ?_
                refine lv_iinc (v := nI (i + 7)) (lv' := [(4, .int (nI (i + 7))), (6, .int v1), (5, .int r1), (0, .ref b), (1, .ref o), (2, .ref r), (3, .ref q)]) hx hb d_L_law_880 hl (k := 6) rfl (nI_add i 7) (by decide) rfl (fun ls hl => ?_)
                refine lv_goto (tgt := 33) hx hb d_L_law_883 (by decide) ?_
                refine W.widen (k := 25 + 200 * (j + 1)) (n := 3432 + 1400 * (j + 1)) (by omega) (by omega) ?_
                exact ih (i + 7) (j + 1) t9 off1 nm1 ng1 now1 F1 R1 pm pg1 th1 u1 f1 _ _ _ (by omega) (by omega) (by omega) hI1 hSr1 hP hD hS (lv_sub hl [3, 4, 5, 6, 0] rfl)
              · refine lv_aload_n hx hb d_L_law_431 rfl (lv_at hl 5 rfl) ?_
                refine lv_iconst (v := 0) hx hb d_L_law_432 (by decide) ?_
                refine va_lald hx hb hK hP 0 3 rfl rfl vi_01 d_L_law_433 ?_
                refine lv_iload hx hb d_L_law_434 (lv_at hl 0 rfl) ?_
                refine lv_i2l (v := v1.toInt64) hx hb d_L_law_436 rfl ?_
                refine W.lcmp hx hb d_L_law_437 ?_
                refine lv_if_eq (tgt := 443) hx hb d_L_law_438 (by decide) (fun _ => ?_) (fun c17 => absurd ((lg_cmp_eq _ _).mpr (hv1 (hr1.symm.trans c16))) c17)
                refine lv_goto (tgt := 880) hx hb d_L_law_443 (by decide) ?_
                refine lv_iinc (v := nI (i + 7)) (lv' := [(4, .int (nI (i + 7))), (6, .int v1), (5, .int r1), (0, .ref b), (1, .ref o), (2, .ref r), (3, .ref q)]) hx hb d_L_law_880 hl (k := 6) rfl (nI_add i 7) (by decide) rfl (fun ls hl => ?_)
                refine lv_goto (tgt := 33) hx hb d_L_law_883 (by decide) ?_
                refine W.widen (k := 25 + 200 * (j + 1)) (n := 3432 + 1400 * (j + 1)) (by omega) (by omega) ?_
                exact ih (i + 7) (j + 1) t9 off1 nm1 ng1 now1 F1 R1 pm pg1 th1 u1 f1 _ _ _ (by omega) (by omega) (by omega) hI1 hSr1 hP hD hS (lv_sub hl [3, 4, 5, 6, 0] rfl)
            · by_cases e18 : ((xs i) &&& 15) = 4
              · refine sk_as e18 ?_
                refine lv_tableIn (off := 396) (tgt := 446) hx hb d_L_law_50 (by decide) (by decide) rfl (by decide) ?_
                refine lv_aload_n hx hb d_L_law_446 rfl (lv_at hl 1 rfl) ?_
                refine lv_aload_n hx hb d_L_law_447 rfl (lv_at hl 0 rfl) ?_
                refine lv_iload hx hb d_L_law_448 (lv_at hl 4 rfl) ?_
                refine lv_iconst (v := 1) hx hb d_L_law_450 (by decide) ?_
                refine lv_iadd hx hb d_L_law_451 ?_
                refine sk_as (y := nI (i + 1)) (nI_add (i) 1) ?_
                refine lw_ld hx hb hX hbl hbA hS (show i + 1 < L by omega) hL d_L_law_452 ?_
                have hPa : va_P D cl_L (ws_C cM cG o am ag pm pg (off, nm, ng, now, F, R) ++ (ws_N cI r rr ra th Sr (off, nm, ng, now, F, R) ++ [(q, .inl (cJ, 1, .inr (.inl f)))])) H := by rw [← List.append_assoc]; exact wk_sw (wa := [(q, .inl (cJ, 1, .inr (.inl f)))]) hP
                have hDa : va_D A (ws_C cM cG o am ag pm pg (off, nm, ng, now, F, R) ++ (ws_N cI r rr ra th Sr (off, nm, ng, now, F, R) ++ [(q, .inl (cJ, 1, .inr (.inl f)))])) := by rw [← List.append_assoc]; exact wk_swD (wa := [(q, .inl (cJ, 1, .inr (.inl f)))]) hD
                have hF9 := wk_F (wk_LD hDa) hS hA
                refine cm_Vi (n := 1) [.int (xs (i + 1))] hC (t_T_lose l D cM cG cI cJ o am ag pm pg off nm ng now F R _ (xs (i + 1)) hg200) ⟨kc_T_lose, kn_T, k_L_80, ki_T_lose, kv_T_lose⟩ (by decide +kernel) ⟨rfl, rfl, Nat.le_of_ble_eq_true rfl, Nat.le_of_ble_eq_true rfl⟩ x_0 (yt_Y D cM cG cI cJ) hY trivial (va_recv hK (wk_L hPa) (ci := 0) (q0 := 0) rfl rfl) (wk_L hPa) (wk_T (wk_LD hDa)) hS hF9 rfl hl.1 rfl (Nat.le_of_ble_eq_true rfl) d_L_law_453 ⟨by show 25 + 200 * j + 0 ≤ room_1.cells; have := rs_c; omega, by show 3432 + 1400 * j + 0 ≤ room_1.slots; have := rs_s; omega⟩ (fun r1 u H1 locs1 hw9 hP1 hD1 hz9 hk9 hS1 => ?_)
                obtain ⟨hP2, hD2⟩ := jn_L hPa hDa hk9 hF9 hP1 hD1
                rw [← List.append_assoc] at hP2 hD2
                replace hP2 := wk_sw hP2
                replace hD2 := wk_swD hD2
                have hP : va_P D cl_L ((q, .inl (cJ, 1, .inr (.inl f))) :: (ws_C cM cG o am ag pm pg (sp_lo (off, nm, ng, now, F, R) (xs (i + 1))).2 ++ ws_N cI r rr ra th Sr (off, nm, ng, now, F, R))) H1 := hP2
                have hD : va_D A ((q, .inl (cJ, 1, .inr (.inl f))) :: (ws_C cM cG o am ag pm pg (sp_lo (off, nm, ng, now, F, R) (xs (i + 1))).2 ++ ws_N cI r rr ra th Sr (off, nm, ng, now, F, R))) := hD2
                have hS := hS1
                clear hPa hDa hF9 hP1 hD1 hP2 hD2 hS1 hk9 hz9
                refine lv_aload_n hx hb d_L_law_456 rfl (lv_at hl 2 rfl) ?_
                refine lv_aload_n hx hb d_L_law_457 rfl (lv_at hl 0 rfl) ?_
                refine lv_iload hx hb d_L_law_458 (lv_at hl 4 rfl) ?_
                refine lv_iconst (v := 1) hx hb d_L_law_460 (by decide) ?_
                refine lv_iadd hx hb d_L_law_461 ?_
                refine sk_as (y := nI (i + 1)) (nI_add (i) 1) ?_
                refine lw_ld hx hb hX hbl hbA hS (show i + 1 < L by omega) hL d_L_law_462 ?_
                have hPa : va_P D cl_L (ws_N cI r rr ra th Sr (off, nm, ng, now, F, R) ++ ((q, .inl (cJ, 1, .inr (.inl f))) :: ws_C cM cG o am ag pm pg (sp_lo (off, nm, ng, now, F, R) (xs (i + 1))).2)) H1 := wk_sw (wa := ((q, .inl (cJ, 1, .inr (.inl f))) :: ws_C cM cG o am ag pm pg (sp_lo (off, nm, ng, now, F, R) (xs (i + 1))).2)) hP
                have hDa : va_D A (ws_N cI r rr ra th Sr (off, nm, ng, now, F, R) ++ ((q, .inl (cJ, 1, .inr (.inl f))) :: ws_C cM cG o am ag pm pg (sp_lo (off, nm, ng, now, F, R) (xs (i + 1))).2)) := wk_swD (wa := ((q, .inl (cJ, 1, .inr (.inl f))) :: ws_C cM cG o am ag pm pg (sp_lo (off, nm, ng, now, F, R) (xs (i + 1))).2)) hD
                have hF9 := wk_F (wk_LD hDa) hS hA
                refine cm_Vi (n := 1) [.int (xs (i + 1))] hC (t_N_lose l D cM cG cI cJ r rr ra th Sr off nm ng now F R _ (xs (i + 1)) t9 hI hSr) ⟨kc_N_lose, kn_N, k_L_84, ki_N_lose, kv_N_lose⟩ (by decide +kernel) ⟨rfl, rfl, Nat.le_of_ble_eq_true rfl, Nat.le_of_ble_eq_true rfl⟩ x_0 (yt_Y D cM cG cI cJ) hY trivial (va_recv hK (wk_L hPa) (ci := 3) (q0 := 0) rfl rfl) (wk_L hPa) (wk_T (wk_LD hDa)) hS hF9 rfl hl.1 rfl (Nat.le_of_ble_eq_true rfl) d_L_law_463 ⟨by show 25 + 200 * j + 0 + 0 ≤ room_1.cells; have := rs_c; omega, by show 3432 + 1400 * j + 0 + 0 ≤ room_1.slots; have := rs_s; omega⟩ (fun v1 u1 H2 locs2 hv9 hP1 hD1 hz9 hk9 hS1 => ?_)
                obtain ⟨hP2, hD2⟩ := jn_L hPa hDa hk9 hF9 hP1 hD1
                replace hP2 := wk_sw hP2
                replace hD2 := wk_swD hD2
                have hP : va_P D cl_L ((q, .inl (cJ, 1, .inr (.inl f))) :: (ws_C cM cG o am ag pm pg (sp_lo (off, nm, ng, now, F, R) (xs (i + 1))).2 ++ ws_N cI r rr ra 0 Sr (sp_lo (off, nm, ng, now, F, R) (xs (i + 1))).2)) H2 := hP2
                have hD : va_D A ((q, .inl (cJ, 1, .inr (.inl f))) :: (ws_C cM cG o am ag pm pg (sp_lo (off, nm, ng, now, F, R) (xs (i + 1))).2 ++ ws_N cI r rr ra 0 Sr (sp_lo (off, nm, ng, now, F, R) (xs (i + 1))).2)) := hD2
                have hS := hS1
                clear hPa hDa hF9 hP1 hD1 hP2 hD2 hS1 hk9 hz9
                obtain ⟨σ1, hσ1⟩ : ∃ σ1 : st_T, σ1 = (sp_lo (off, nm, ng, now, F, R) (xs (i + 1))).2 := ⟨_, rfl⟩
                have hI1 : iv_S t9 σ1 := by rw [hσ1]; exact kp_lo hI (xs (i + 1))
                have hSr1 : sr_P Sr σ1 := by rw [hσ1]; exact sr_lo hSr
                rw [← hσ1] at hP hD
                obtain ⟨off1, nm1, ng1, now1, F1, R1⟩ := σ1
                refine lv_icmp_eq (tgt := 880) hx hb d_L_law_466 (by decide) (fun _ => ?_) (fun c19 => absurd (hw9.trans hv9.symm) c19)
                refine lv_iinc (v := nI (i + 7)) (lv' := [(4, .int (nI (i + 7))), (0, .ref b), (1, .ref o), (2, .ref r), (3, .ref q)]) hx hb d_L_law_880 hl (k := 4) rfl (nI_add i 7) (by decide) rfl (fun ls hl => ?_)
                refine lv_goto (tgt := 33) hx hb d_L_law_883 (by decide) ?_
                refine W.widen (k := 25 + 200 * (j + 1)) (n := 3432 + 1400 * (j + 1)) (by omega) (by omega) ?_
                exact ih (i + 7) (j + 1) t9 off1 nm1 ng1 now1 F1 R1 pm pg 0 Sr f _ _ _ (by omega) (by omega) (by omega) hI1 hSr1 hP hD hS (lv_sub hl [1, 2, 3, 4, 0] rfl)
              · by_cases e20 : ((xs i) &&& 15) = 5
                · refine sk_as e20 ?_
                  refine lv_tableIn (off := 421) (tgt := 471) hx hb d_L_law_50 (by decide) (by decide) rfl (by decide) ?_
                  refine lv_aload_n hx hb d_L_law_471 rfl (lv_at hl 1 rfl) ?_
                  refine lv_aload_n hx hb d_L_law_472 rfl (lv_at hl 0 rfl) ?_
                  refine lv_iload hx hb d_L_law_473 (lv_at hl 4 rfl) ?_
                  refine lv_iconst (v := 1) hx hb d_L_law_475 (by decide) ?_
                  refine lv_iadd hx hb d_L_law_476 ?_
                  refine sk_as (y := nI (i + 1)) (nI_add (i) 1) ?_
                  refine lw_ld hx hb hX hbl hbA hS (show i + 1 < L by omega) hL d_L_law_477 ?_
                  refine lv_aload_n hx hb d_L_law_478 rfl (lv_at hl 3 rfl) ?_
                  have hPa : va_P D cl_L (((q, .inl (cJ, 1, .inr (.inl f))) :: ws_C cM cG o am ag pm pg (off, nm, ng, now, F, R)) ++ ws_N cI r rr ra th Sr (off, nm, ng, now, F, R)) H := hP
                  have hDa : va_D A (((q, .inl (cJ, 1, .inr (.inl f))) :: ws_C cM cG o am ag pm pg (off, nm, ng, now, F, R)) ++ ws_N cI r rr ra th Sr (off, nm, ng, now, F, R)) := hD
                  have hF9 := wk_F (wk_LD hDa) hS hA
                  refine cm_SW (n := 3) [.ref o, .int (xs (i + 1)), .ref q] hC (t_L_tick l D cM cG cI cJ o am ag pm pg off nm ng now F R q f _ (xs (i + 1)) hl0 t9 hI) ⟨kw_L_tick, kn_L, k_L_85, ks_L_tick⟩ (by decide +kernel) ⟨rfl, rfl, Nat.le_of_ble_eq_true rfl, Nat.le_of_ble_eq_true rfl⟩ sz_2 (yt_Y D cM cG cI cJ) hY ⟨sx_k hXs hS hF9, sa_k hXa hS hF9⟩ (wk_L hPa) (wk_T (wk_LD hDa)) hS hF9 rfl hl.1 rfl (Nat.le_of_ble_eq_true rfl) d_L_law_479 ⟨by show 25 + 200 * j + 200 ≤ room_1.cells; have := rs_c; omega, by show 3432 + 1400 * j + 1400 ≤ room_1.slots; have := rs_s; omega⟩ (fun r1 u H1 locs1 hw9 hP1 hD1 hz9 hk9 hS1 => ?_)
                  obtain ⟨pg1, f1⟩ := u
                  have hw9 : r1 = (sp_ti (off, nm, ng, now, F, R) (xs (i + 1))).1 ∧ ((sp_ti (off, nm, ng, now, F, R) (xs (i + 1))).1 = 0 → f1 0 = ((sp_ti (off, nm, ng, now, F, R) (xs (i + 1))).2.1).toInt64) := hw9
                  obtain ⟨hP2, hD2⟩ := jn_L hPa hDa hk9 hF9 hP1 hD1
                  have hP : va_P D cl_L ((q, .inl (cJ, 1, .inr (.inl f1))) :: (ws_C cM cG o am ag pm pg1 (sp_ti (off, nm, ng, now, F, R) (xs (i + 1))).2.2 ++ ws_N cI r rr ra th Sr (off, nm, ng, now, F, R))) H1 := hP2
                  have hD : va_D A ((q, .inl (cJ, 1, .inr (.inl f1))) :: (ws_C cM cG o am ag pm pg1 (sp_ti (off, nm, ng, now, F, R) (xs (i + 1))).2.2 ++ ws_N cI r rr ra th Sr (off, nm, ng, now, F, R))) := hD2
                  have hS := hS1
                  clear hPa hDa hF9 hP1 hD1 hP2 hD2 hS1 hk9 hz9
                  refine lv_istore (lv' := [(5, .int r1), (0, .ref b), (1, .ref o), (2, .ref r), (3, .ref q), (4, .int (nI i))]) hx hb d_L_law_482 hl (by decide) rfl (fun ls hl => ?_)
                  refine lv_aload_n hx hb d_L_law_484 rfl (lv_at hl 3 rfl) ?_
                  refine lv_aload_n hx hb d_L_law_485 rfl (lv_at hl 1 rfl) ?_
                  refine lv_iload hx hb d_L_law_486 (lv_at hl 5 rfl) ?_
                  refine lv_iconst (v := 1) hx hb d_L_law_488 (by decide) ?_
                  refine lv_iadd hx hb d_L_law_489 ?_
                  refine sk_as (y := nI (i + 1)) (nI_add (i) 1) ?_
                  refine lw_ld hx hb hX hbl hbA hS (show i + 1 < L by omega) hL d_L_law_490 ?_
                  have hPa : va_P D cl_L (ws_N cI r rr ra th Sr (off, nm, ng, now, F, R) ++ ((q, .inl (cJ, 1, .inr (.inl f1))) :: ws_C cM cG o am ag pm pg1 (sp_ti (off, nm, ng, now, F, R) (xs (i + 1))).2.2)) H1 := wk_sw (wa := ((q, .inl (cJ, 1, .inr (.inl f1))) :: ws_C cM cG o am ag pm pg1 (sp_ti (off, nm, ng, now, F, R) (xs (i + 1))).2.2)) hP
                  have hDa : va_D A (ws_N cI r rr ra th Sr (off, nm, ng, now, F, R) ++ ((q, .inl (cJ, 1, .inr (.inl f1))) :: ws_C cM cG o am ag pm pg1 (sp_ti (off, nm, ng, now, F, R) (xs (i + 1))).2.2)) := wk_swD (wa := ((q, .inl (cJ, 1, .inr (.inl f1))) :: ws_C cM cG o am ag pm pg1 (sp_ti (off, nm, ng, now, F, R) (xs (i + 1))).2.2)) hD
                  have hF9 := wk_F (wk_LD hDa) hS hA
                  refine cm_Vi (n := 1) [.int (xs (i + 1))] hC (t_N_tick l D cM cG cI cJ r rr ra th Sr off nm ng now F R _ (xs (i + 1)) t9 hI hSr) ⟨kc_N_tick, kn_N, k_L_88, ki_N_tick, kv_N_tick⟩ (by decide +kernel) ⟨rfl, rfl, Nat.le_of_ble_eq_true rfl, Nat.le_of_ble_eq_true rfl⟩ x_0 (yt_Y D cM cG cI cJ) hY trivial (va_recv hK (wk_L hPa) (ci := 3) (q0 := 0) rfl rfl) (wk_L hPa) (wk_T (wk_LD hDa)) hS hF9 rfl hl.1 rfl (Nat.le_of_ble_eq_true rfl) d_L_law_491 ⟨by show 25 + 200 * j + 200 + 0 ≤ room_1.cells; have := rs_c; omega, by show 3432 + 1400 * j + 1400 + 0 ≤ room_1.slots; have := rs_s; omega⟩ (fun v1 u1 H2 locs2 hv9 hP1 hD1 hz9 hk9 hS1 => ?_)
                  obtain ⟨hP2, hD2⟩ := jn_L hPa hDa hk9 hF9 hP1 hD1
                  replace hP2 := wk_sw hP2
                  replace hD2 := wk_swD hD2
                  have hP : va_P D cl_L ((q, .inl (cJ, 1, .inr (.inl f1))) :: (ws_C cM cG o am ag pm pg1 (sp_ti (off, nm, ng, now, F, R) (xs (i + 1))).2.2 ++ ws_N cI r rr ra ((sp_ti (off, nm, ng, now, F, R) (xs (i + 1))).1) u1 (sp_ti (off, nm, ng, now, F, R) (xs (i + 1))).2.2)) H2 := hP2
                  have hD : va_D A ((q, .inl (cJ, 1, .inr (.inl f1))) :: (ws_C cM cG o am ag pm pg1 (sp_ti (off, nm, ng, now, F, R) (xs (i + 1))).2.2 ++ ws_N cI r rr ra ((sp_ti (off, nm, ng, now, F, R) (xs (i + 1))).1) u1 (sp_ti (off, nm, ng, now, F, R) (xs (i + 1))).2.2)) := hD2
                  have hS := hS1
                  clear hPa hDa hF9 hP1 hD1 hP2 hD2 hS1 hk9 hz9
                  obtain ⟨th1, hth1⟩ : ∃ th1 : Int32, th1 = (sp_ti (off, nm, ng, now, F, R) (xs (i + 1))).1 := ⟨_, rfl⟩
                  have hr1 : r1 = th1 := hw9.1.trans hth1.symm
                  have hv1 : th1 = 0 → f1 0 = v1.toInt64 := fun z => by rw [hv9.1 (hth1.symm.trans z)]; exact hw9.2 (hth1.symm.trans z)
                  obtain ⟨σ1, hσ1⟩ : ∃ σ1 : st_T, σ1 = (sp_ti (off, nm, ng, now, F, R) (xs (i + 1))).2.2 := ⟨_, rfl⟩
                  obtain ⟨t1, hI1⟩ := kp_ti hI (xs (i + 1))
                  rw [← hσ1] at hI1
                  have hSr1 : sr_P u1 σ1 := by rw [hσ1]; exact hv9.2
                  rw [← hσ1, ← hth1] at hP hD
                  clear hσ1
                  obtain ⟨off1, nm1, ng1, now1, F1, R1⟩ := σ1
                  refine lv_istore (lv' := [(6, .int v1), (5, .int r1), (0, .ref b), (1, .ref o), (2, .ref r), (3, .ref q), (4, .int (nI i))]) hx hb d_L_law_494 hl (by decide) rfl (fun ls hl => ?_)
                  refine lv_aload_n hx hb d_L_law_496 rfl (lv_at hl 4 rfl) ?_
                  have hPa : va_P D cl_L (ws_N cI r rr ra th1 u1 (off1, nm1, ng1, now1, F1, R1) ++ ((q, .inl (cJ, 1, .inr (.inl f1))) :: ws_C cM cG o am ag pm pg1 (off1, nm1, ng1, now1, F1, R1))) H2 := wk_sw (wa := ((q, .inl (cJ, 1, .inr (.inl f1))) :: ws_C cM cG o am ag pm pg1 (off1, nm1, ng1, now1, F1, R1))) hP
                  have hDa : va_D A (ws_N cI r rr ra th1 u1 (off1, nm1, ng1, now1, F1, R1) ++ ((q, .inl (cJ, 1, .inr (.inl f1))) :: ws_C cM cG o am ag pm pg1 (off1, nm1, ng1, now1, F1, R1))) := wk_swD (wa := ((q, .inl (cJ, 1, .inr (.inl f1))) :: ws_C cM cG o am ag pm pg1 (off1, nm1, ng1, now1, F1, R1))) hD
                  have hF9 := wk_F (wk_LD hDa) hS hA
                  refine cp_V (n := 0) [] hC (t_N_thrown l D cM cG cI cJ r rr ra th1 u1 off1 nm1 ng1 now1 F1 R1) ⟨kc_N_thrown, kn_N, k_L_65, ki_N_thrown, kv_N_thrown⟩ (by decide +kernel) ⟨rfl, rfl, Nat.le_of_ble_eq_true rfl, Nat.le_of_ble_eq_true rfl⟩ x_0 (yt_Y D cM cG cI cJ) hY (wk_L hPa) (va_recv hK (wk_L hPa) (ci := 3) (q0 := 0) rfl rfl) rfl hl.1 rfl (Nat.le_of_ble_eq_true rfl) d_L_law_497 ⟨by show 25 + 200 * j + 200 + 0 + 0 ≤ room_1.cells; have := rs_c; omega, by show 3432 + 1400 * j + 1400 + 0 + 0 ≤ room_1.slots; have := rs_s; omega⟩ (fun r2 h2 => ?_)
                  rw [h2]
                  clear hPa hDa hF9 h2
                  refine lv_iload hx hb d_L_law_500 (lv_at hl 1 rfl) ?_
                  refine lv_icmp_eq (tgt := 507) hx hb d_L_law_502 (by decide) (fun _ => ?_) (fun c21 => absurd hr1.symm c21)
                  refine lv_iload hx hb d_L_law_507 (lv_at hl 1 rfl) ?_
                  refine lv_if_ne (tgt := 524) hx hb d_L_law_509 (by decide) (fun c22 => ?_) (fun c22 => ?_)
                  · refine lv_goto (tgt := 880) hx hb d_L_law_524 (by decide) ?_
                    refine lv_iinc (v := nI (i + 7)) (lv' := [(4, .int (nI (i + 7))), (6, .int v1), (5, .int r1), (0, .ref b), (1, .ref o), (2, .ref r), (3, .ref q)]) hx hb d_L_law_880 hl (k := 6) rfl (nI_add i 7) (by decide) rfl (fun ls hl => ?_)
                    refine lv_goto (tgt := 33) hx hb d_L_law_883 (by decide) ?_
                    refine W.widen (k := 25 + 200 * (j + 1)) (n := 3432 + 1400 * (j + 1)) (by omega) (by omega) ?_
                    exact ih (i + 7) (j + 1) t1 off1 nm1 ng1 now1 F1 R1 pm pg1 th1 u1 f1 _ _ _ (by omega) (by omega) (by omega) hI1 hSr1 hP hD hS (lv_sub hl [3, 4, 5, 6, 0] rfl)
                  · refine lv_aload_n hx hb d_L_law_512 rfl (lv_at hl 5 rfl) ?_
                    refine lv_iconst (v := 0) hx hb d_L_law_513 (by decide) ?_
                    refine va_lald hx hb hK hP 0 3 rfl rfl vi_01 d_L_law_514 ?_
                    refine lv_iload hx hb d_L_law_515 (lv_at hl 0 rfl) ?_
                    refine lv_i2l (v := v1.toInt64) hx hb d_L_law_517 rfl ?_
                    refine W.lcmp hx hb d_L_law_518 ?_
                    refine lv_if_eq (tgt := 524) hx hb d_L_law_519 (by decide) (fun _ => ?_) (fun c23 => absurd ((lg_cmp_eq _ _).mpr (hv1 (hr1.symm.trans c22))) c23)
                    refine lv_goto (tgt := 880) hx hb d_L_law_524 (by decide) ?_
                    refine lv_iinc (v := nI (i + 7)) (lv' := [(4, .int (nI (i + 7))), (6, .int v1), (5, .int r1), (0, .ref b), (1, .ref o), (2, .ref r), (3, .ref q)]) hx hb d_L_law_880 hl (k := 6) rfl (nI_add i 7) (by decide) rfl (fun ls hl => ?_)
                    refine lv_goto (tgt := 33) hx hb d_L_law_883 (by decide) ?_
                    refine W.widen (k := 25 + 200 * (j + 1)) (n := 3432 + 1400 * (j + 1)) (by omega) (by omega) ?_
                    exact ih (i + 7) (j + 1) t1 off1 nm1 ng1 now1 F1 R1 pm pg1 th1 u1 f1 _ _ _ (by omega) (by omega) (by omega) hI1 hSr1 hP hD hS (lv_sub hl [3, 4, 5, 6, 0] rfl)
                · by_cases e24 : ((xs i) &&& 15) = 6
                  · refine sk_as e24 ?_
                    refine lv_tableIn (off := 477) (tgt := 527) hx hb d_L_law_50 (by decide) (by decide) rfl (by decide) ?_
                    refine lv_aload_n hx hb d_L_law_527 rfl (lv_at hl 1 rfl) ?_
                    refine lv_aload_n hx hb d_L_law_528 rfl (lv_at hl 0 rfl) ?_
                    refine lv_iload hx hb d_L_law_529 (lv_at hl 4 rfl) ?_
                    refine lv_iconst (v := 1) hx hb d_L_law_531 (by decide) ?_
                    refine lv_iadd hx hb d_L_law_532 ?_
                    refine sk_as (y := nI (i + 1)) (nI_add (i) 1) ?_
                    refine lw_ld hx hb hX hbl hbA hS (show i + 1 < L by omega) hL d_L_law_533 ?_
                    refine lv_aload_n hx hb d_L_law_534 rfl (lv_at hl 0 rfl) ?_
                    refine lv_iload hx hb d_L_law_535 (lv_at hl 4 rfl) ?_
                    refine lv_iconst (v := 2) hx hb d_L_law_537 (by decide) ?_
                    refine lv_iadd hx hb d_L_law_538 ?_
                    refine sk_as (y := nI (i + 2)) (nI_add (i) 2) ?_
                    refine lw_ld hx hb hX hbl hbA hS (show i + 2 < L by omega) hL d_L_law_539 ?_
                    refine lv_aload_n hx hb d_L_law_540 rfl (lv_at hl 3 rfl) ?_
                    have hPa : va_P D cl_L (((q, .inl (cJ, 1, .inr (.inl f))) :: ws_C cM cG o am ag pm pg (off, nm, ng, now, F, R)) ++ ws_N cI r rr ra th Sr (off, nm, ng, now, F, R)) H := hP
                    have hDa : va_D A (((q, .inl (cJ, 1, .inr (.inl f))) :: ws_C cM cG o am ag pm pg (off, nm, ng, now, F, R)) ++ ws_N cI r rr ra th Sr (off, nm, ng, now, F, R)) := hD
                    have hF9 := wk_F (wk_LD hDa) hS hA
                    refine cm_SW (n := 4) [.ref o, .int (xs (i + 1)), .int (xs (i + 2)), .ref q] hC (t_L_discharge l D cM cG cI cJ o am ag pm pg off nm ng now F R q f _ (xs (i + 1)) (xs (i + 2)) hl0 t9 hI) ⟨kw_L_discharge, kn_L, k_L_89, ks_L_discharge⟩ (by decide +kernel) ⟨rfl, rfl, Nat.le_of_ble_eq_true rfl, Nat.le_of_ble_eq_true rfl⟩ sz_2 (yt_Y D cM cG cI cJ) hY ⟨sx_k hXs hS hF9, sa_k hXa hS hF9⟩ (wk_L hPa) (wk_T (wk_LD hDa)) hS hF9 rfl hl.1 rfl (Nat.le_of_ble_eq_true rfl) d_L_law_541 ⟨by show 25 + 200 * j + 1 ≤ room_1.cells; have := rs_c; omega, by show 3432 + 1400 * j + 6 ≤ room_1.slots; have := rs_s; omega⟩ (fun r1 u H1 locs1 hw9 hP1 hD1 hz9 hk9 hS1 => ?_)
                    obtain ⟨pg1, f1⟩ := u
                    have hw9 : r1 = (sp_di (off, nm, ng, now, F, R) (xs (i + 1)) (xs (i + 2))).1 ∧ ((sp_di (off, nm, ng, now, F, R) (xs (i + 1)) (xs (i + 2))).1 = 0 → f1 0 = ((sp_di (off, nm, ng, now, F, R) (xs (i + 1)) (xs (i + 2))).2.1).toInt64) := hw9
                    obtain ⟨hP2, hD2⟩ := jn_L hPa hDa hk9 hF9 hP1 hD1
                    have hP : va_P D cl_L ((q, .inl (cJ, 1, .inr (.inl f1))) :: (ws_C cM cG o am ag pm pg1 (sp_di (off, nm, ng, now, F, R) (xs (i + 1)) (xs (i + 2))).2.2 ++ ws_N cI r rr ra th Sr (off, nm, ng, now, F, R))) H1 := hP2
                    have hD : va_D A ((q, .inl (cJ, 1, .inr (.inl f1))) :: (ws_C cM cG o am ag pm pg1 (sp_di (off, nm, ng, now, F, R) (xs (i + 1)) (xs (i + 2))).2.2 ++ ws_N cI r rr ra th Sr (off, nm, ng, now, F, R))) := hD2
                    have hS := hS1
                    clear hPa hDa hF9 hP1 hD1 hP2 hD2 hS1 hk9 hz9
                    refine lv_istore (lv' := [(5, .int r1), (0, .ref b), (1, .ref o), (2, .ref r), (3, .ref q), (4, .int (nI i))]) hx hb d_L_law_544 hl (by decide) rfl (fun ls hl => ?_)
                    refine lv_aload_n hx hb d_L_law_546 rfl (lv_at hl 3 rfl) ?_
                    refine lv_aload_n hx hb d_L_law_547 rfl (lv_at hl 1 rfl) ?_
                    refine lv_iload hx hb d_L_law_548 (lv_at hl 5 rfl) ?_
                    refine lv_iconst (v := 1) hx hb d_L_law_550 (by decide) ?_
                    refine lv_iadd hx hb d_L_law_551 ?_
                    refine sk_as (y := nI (i + 1)) (nI_add (i) 1) ?_
                    refine lw_ld hx hb hX hbl hbA hS (show i + 1 < L by omega) hL d_L_law_552 ?_
                    refine lv_aload_n hx hb d_L_law_553 rfl (lv_at hl 1 rfl) ?_
                    refine lv_iload hx hb d_L_law_554 (lv_at hl 5 rfl) ?_
                    refine lv_iconst (v := 2) hx hb d_L_law_556 (by decide) ?_
                    refine lv_iadd hx hb d_L_law_557 ?_
                    refine sk_as (y := nI (i + 2)) (nI_add (i) 2) ?_
                    refine lw_ld hx hb hX hbl hbA hS (show i + 2 < L by omega) hL d_L_law_558 ?_
                    have hPa : va_P D cl_L (ws_N cI r rr ra th Sr (off, nm, ng, now, F, R) ++ ((q, .inl (cJ, 1, .inr (.inl f1))) :: ws_C cM cG o am ag pm pg1 (sp_di (off, nm, ng, now, F, R) (xs (i + 1)) (xs (i + 2))).2.2)) H1 := wk_sw (wa := ((q, .inl (cJ, 1, .inr (.inl f1))) :: ws_C cM cG o am ag pm pg1 (sp_di (off, nm, ng, now, F, R) (xs (i + 1)) (xs (i + 2))).2.2)) hP
                    have hDa : va_D A (ws_N cI r rr ra th Sr (off, nm, ng, now, F, R) ++ ((q, .inl (cJ, 1, .inr (.inl f1))) :: ws_C cM cG o am ag pm pg1 (sp_di (off, nm, ng, now, F, R) (xs (i + 1)) (xs (i + 2))).2.2)) := wk_swD (wa := ((q, .inl (cJ, 1, .inr (.inl f1))) :: ws_C cM cG o am ag pm pg1 (sp_di (off, nm, ng, now, F, R) (xs (i + 1)) (xs (i + 2))).2.2)) hD
                    have hF9 := wk_F (wk_LD hDa) hS hA
                    refine cm_Vi (n := 2) [.int (xs (i + 1)), .int (xs (i + 2))] hC (t_N_discharge l D cM cG cI cJ r rr ra th Sr off nm ng now F R _ (xs (i + 1)) (xs (i + 2)) t9 hI hSr) ⟨kc_N_discharge, kn_N, k_L_91, ki_N_discharge, kv_N_discharge⟩ (by decide +kernel) ⟨rfl, rfl, Nat.le_of_ble_eq_true rfl, Nat.le_of_ble_eq_true rfl⟩ x_0 (yt_Y D cM cG cI cJ) hY trivial (va_recv hK (wk_L hPa) (ci := 3) (q0 := 0) rfl rfl) (wk_L hPa) (wk_T (wk_LD hDa)) hS hF9 rfl hl.1 rfl (Nat.le_of_ble_eq_true rfl) d_L_law_559 ⟨by show 25 + 200 * j + 1 + 0 ≤ room_1.cells; have := rs_c; omega, by show 3432 + 1400 * j + 6 + 0 ≤ room_1.slots; have := rs_s; omega⟩ (fun v1 u1 H2 locs2 hv9 hP1 hD1 hz9 hk9 hS1 => ?_)
                    obtain ⟨hP2, hD2⟩ := jn_L hPa hDa hk9 hF9 hP1 hD1
                    replace hP2 := wk_sw hP2
                    replace hD2 := wk_swD hD2
                    have hP : va_P D cl_L ((q, .inl (cJ, 1, .inr (.inl f1))) :: (ws_C cM cG o am ag pm pg1 (sp_di (off, nm, ng, now, F, R) (xs (i + 1)) (xs (i + 2))).2.2 ++ ws_N cI r rr ra ((sp_di (off, nm, ng, now, F, R) (xs (i + 1)) (xs (i + 2))).1) u1 (sp_di (off, nm, ng, now, F, R) (xs (i + 1)) (xs (i + 2))).2.2)) H2 := hP2
                    have hD : va_D A ((q, .inl (cJ, 1, .inr (.inl f1))) :: (ws_C cM cG o am ag pm pg1 (sp_di (off, nm, ng, now, F, R) (xs (i + 1)) (xs (i + 2))).2.2 ++ ws_N cI r rr ra ((sp_di (off, nm, ng, now, F, R) (xs (i + 1)) (xs (i + 2))).1) u1 (sp_di (off, nm, ng, now, F, R) (xs (i + 1)) (xs (i + 2))).2.2)) := hD2
                    have hS := hS1
                    clear hPa hDa hF9 hP1 hD1 hP2 hD2 hS1 hk9 hz9
                    obtain ⟨th1, hth1⟩ : ∃ th1 : Int32, th1 = (sp_di (off, nm, ng, now, F, R) (xs (i + 1)) (xs (i + 2))).1 := ⟨_, rfl⟩
                    have hr1 : r1 = th1 := hw9.1.trans hth1.symm
                    have hv1 : th1 = 0 → f1 0 = v1.toInt64 := fun z => by rw [hv9.1 (hth1.symm.trans z)]; exact hw9.2 (hth1.symm.trans z)
                    obtain ⟨σ1, hσ1⟩ : ∃ σ1 : st_T, σ1 = (sp_di (off, nm, ng, now, F, R) (xs (i + 1)) (xs (i + 2))).2.2 := ⟨_, rfl⟩
                    have hI1 : iv_S t9 σ1 := by rw [hσ1]; exact kp_di hI (xs (i + 1)) (xs (i + 2))
                    have hSr1 : sr_P u1 σ1 := by rw [hσ1]; exact hv9.2
                    rw [← hσ1, ← hth1] at hP hD
                    clear hσ1
                    obtain ⟨off1, nm1, ng1, now1, F1, R1⟩ := σ1
                    refine lv_istore (lv' := [(6, .int v1), (5, .int r1), (0, .ref b), (1, .ref o), (2, .ref r), (3, .ref q), (4, .int (nI i))]) hx hb d_L_law_562 hl (by decide) rfl (fun ls hl => ?_)
                    refine lv_aload_n hx hb d_L_law_564 rfl (lv_at hl 4 rfl) ?_
                    have hPa : va_P D cl_L (ws_N cI r rr ra th1 u1 (off1, nm1, ng1, now1, F1, R1) ++ ((q, .inl (cJ, 1, .inr (.inl f1))) :: ws_C cM cG o am ag pm pg1 (off1, nm1, ng1, now1, F1, R1))) H2 := wk_sw (wa := ((q, .inl (cJ, 1, .inr (.inl f1))) :: ws_C cM cG o am ag pm pg1 (off1, nm1, ng1, now1, F1, R1))) hP
                    have hDa : va_D A (ws_N cI r rr ra th1 u1 (off1, nm1, ng1, now1, F1, R1) ++ ((q, .inl (cJ, 1, .inr (.inl f1))) :: ws_C cM cG o am ag pm pg1 (off1, nm1, ng1, now1, F1, R1))) := wk_swD (wa := ((q, .inl (cJ, 1, .inr (.inl f1))) :: ws_C cM cG o am ag pm pg1 (off1, nm1, ng1, now1, F1, R1))) hD
                    have hF9 := wk_F (wk_LD hDa) hS hA
                    refine cp_V (n := 0) [] hC (t_N_thrown l D cM cG cI cJ r rr ra th1 u1 off1 nm1 ng1 now1 F1 R1) ⟨kc_N_thrown, kn_N, k_L_65, ki_N_thrown, kv_N_thrown⟩ (by decide +kernel) ⟨rfl, rfl, Nat.le_of_ble_eq_true rfl, Nat.le_of_ble_eq_true rfl⟩ x_0 (yt_Y D cM cG cI cJ) hY (wk_L hPa) (va_recv hK (wk_L hPa) (ci := 3) (q0 := 0) rfl rfl) rfl hl.1 rfl (Nat.le_of_ble_eq_true rfl) d_L_law_565 ⟨by show 25 + 200 * j + 1 + 0 + 0 ≤ room_1.cells; have := rs_c; omega, by show 3432 + 1400 * j + 6 + 0 + 0 ≤ room_1.slots; have := rs_s; omega⟩ (fun r2 h2 => ?_)
                    rw [h2]
                    clear hPa hDa hF9 h2
                    refine lv_iload hx hb d_L_law_568 (lv_at hl 1 rfl) ?_
                    refine lv_icmp_eq (tgt := 575) hx hb d_L_law_570 (by decide) (fun _ => ?_) (fun c25 => absurd hr1.symm c25)
                    refine lv_iload hx hb d_L_law_575 (lv_at hl 1 rfl) ?_
                    refine lv_if_ne (tgt := 592) hx hb d_L_law_577 (by decide) (fun c26 => ?_) (fun c26 => ?_)
                    · refine lv_goto (tgt := 880) hx hb d_L_law_592 (by decide) ?_
                      refine lv_iinc (v := nI (i + 7)) (lv' := [(4, .int (nI (i + 7))), (6, .int v1), (5, .int r1), (0, .ref b), (1, .ref o), (2, .ref r), (3, .ref q)]) hx hb d_L_law_880 hl (k := 6) rfl (nI_add i 7) (by decide) rfl (fun ls hl => ?_)
                      refine lv_goto (tgt := 33) hx hb d_L_law_883 (by decide) ?_
                      refine W.widen (k := 25 + 200 * (j + 1)) (n := 3432 + 1400 * (j + 1)) (by omega) (by omega) ?_
                      exact ih (i + 7) (j + 1) t9 off1 nm1 ng1 now1 F1 R1 pm pg1 th1 u1 f1 _ _ _ (by omega) (by omega) (by omega) hI1 hSr1 hP hD hS (lv_sub hl [3, 4, 5, 6, 0] rfl)
                    · refine lv_aload_n hx hb d_L_law_580 rfl (lv_at hl 5 rfl) ?_
                      refine lv_iconst (v := 0) hx hb d_L_law_581 (by decide) ?_
                      refine va_lald hx hb hK hP 0 3 rfl rfl vi_01 d_L_law_582 ?_
                      refine lv_iload hx hb d_L_law_583 (lv_at hl 0 rfl) ?_
                      refine lv_i2l (v := v1.toInt64) hx hb d_L_law_585 rfl ?_
                      refine W.lcmp hx hb d_L_law_586 ?_
                      refine lv_if_eq (tgt := 592) hx hb d_L_law_587 (by decide) (fun _ => ?_) (fun c27 => absurd ((lg_cmp_eq _ _).mpr (hv1 (hr1.symm.trans c26))) c27)
                      refine lv_goto (tgt := 880) hx hb d_L_law_592 (by decide) ?_
                      refine lv_iinc (v := nI (i + 7)) (lv' := [(4, .int (nI (i + 7))), (6, .int v1), (5, .int r1), (0, .ref b), (1, .ref o), (2, .ref r), (3, .ref q)]) hx hb d_L_law_880 hl (k := 6) rfl (nI_add i 7) (by decide) rfl (fun ls hl => ?_)
                      refine lv_goto (tgt := 33) hx hb d_L_law_883 (by decide) ?_
                      refine W.widen (k := 25 + 200 * (j + 1)) (n := 3432 + 1400 * (j + 1)) (by omega) (by omega) ?_
                      exact ih (i + 7) (j + 1) t9 off1 nm1 ng1 now1 F1 R1 pm pg1 th1 u1 f1 _ _ _ (by omega) (by omega) (by omega) hI1 hSr1 hP hD hS (lv_sub hl [3, 4, 5, 6, 0] rfl)
                  · by_cases e28 : ((xs i) &&& 15) = 7
                    · refine sk_as e28 ?_
                      refine lv_tableIn (off := 545) (tgt := 595) hx hb d_L_law_50 (by decide) (by decide) rfl (by decide) ?_
                      refine lv_aload_n hx hb d_L_law_595 rfl (lv_at hl 1 rfl) ?_
                      refine lv_aload_n hx hb d_L_law_596 rfl (lv_at hl 0 rfl) ?_
                      refine lv_iload hx hb d_L_law_597 (lv_at hl 4 rfl) ?_
                      refine lv_iconst (v := 1) hx hb d_L_law_599 (by decide) ?_
                      refine lv_iadd hx hb d_L_law_600 ?_
                      refine sk_as (y := nI (i + 1)) (nI_add (i) 1) ?_
                      refine lw_ld hx hb hX hbl hbA hS (show i + 1 < L by omega) hL d_L_law_601 ?_
                      refine lv_aload_n hx hb d_L_law_602 rfl (lv_at hl 3 rfl) ?_
                      have hPa : va_P D cl_L (((q, .inl (cJ, 1, .inr (.inl f))) :: ws_C cM cG o am ag pm pg (off, nm, ng, now, F, R)) ++ ws_N cI r rr ra th Sr (off, nm, ng, now, F, R)) H := hP
                      have hDa : va_D A (((q, .inl (cJ, 1, .inr (.inl f))) :: ws_C cM cG o am ag pm pg (off, nm, ng, now, F, R)) ++ ws_N cI r rr ra th Sr (off, nm, ng, now, F, R)) := hD
                      have hF9 := wk_F (wk_LD hDa) hS hA
                      refine cm_SW (n := 3) [.ref o, .int (xs (i + 1)), .ref q] hC (t_L_proof l D cM cG cI cJ o am ag pm pg off nm ng now F R q f _ (xs (i + 1)) hl0 t9 hI) ⟨kw_L_proof, kn_L, k_L_92, ks_L_proof⟩ (by decide +kernel) ⟨rfl, rfl, Nat.le_of_ble_eq_true rfl, Nat.le_of_ble_eq_true rfl⟩ sz_2 (yt_Y D cM cG cI cJ) hY ⟨sx_k hXs hS hF9, sa_k hXa hS hF9⟩ (wk_L hPa) (wk_T (wk_LD hDa)) hS hF9 rfl hl.1 rfl (Nat.le_of_ble_eq_true rfl) d_L_law_603 ⟨by show 25 + 200 * j + 1 ≤ room_1.cells; have := rs_c; omega, by show 3432 + 1400 * j + 6 ≤ room_1.slots; have := rs_s; omega⟩ (fun r1 u H1 locs1 hw9 hP1 hD1 hz9 hk9 hS1 => ?_)
                      obtain ⟨pg1, f1⟩ := u
                      have hw9 : r1 = (sp_pr (off, nm, ng, now, F, R) (xs (i + 1))).1 ∧ ((sp_pr (off, nm, ng, now, F, R) (xs (i + 1))).1 = 0 → f1 0 = ((sp_pr (off, nm, ng, now, F, R) (xs (i + 1))).2.1).toInt64) := hw9
                      obtain ⟨hP2, hD2⟩ := jn_L hPa hDa hk9 hF9 hP1 hD1
                      have hP : va_P D cl_L ((q, .inl (cJ, 1, .inr (.inl f1))) :: (ws_C cM cG o am ag pm pg1 (sp_pr (off, nm, ng, now, F, R) (xs (i + 1))).2.2 ++ ws_N cI r rr ra th Sr (off, nm, ng, now, F, R))) H1 := hP2
                      have hD : va_D A ((q, .inl (cJ, 1, .inr (.inl f1))) :: (ws_C cM cG o am ag pm pg1 (sp_pr (off, nm, ng, now, F, R) (xs (i + 1))).2.2 ++ ws_N cI r rr ra th Sr (off, nm, ng, now, F, R))) := hD2
                      have hS := hS1
                      clear hPa hDa hF9 hP1 hD1 hP2 hD2 hS1 hk9 hz9
                      refine lv_istore (lv' := [(5, .int r1), (0, .ref b), (1, .ref o), (2, .ref r), (3, .ref q), (4, .int (nI i))]) hx hb d_L_law_606 hl (by decide) rfl (fun ls hl => ?_)
                      refine lv_aload_n hx hb d_L_law_608 rfl (lv_at hl 3 rfl) ?_
                      refine lv_aload_n hx hb d_L_law_609 rfl (lv_at hl 1 rfl) ?_
                      refine lv_iload hx hb d_L_law_610 (lv_at hl 5 rfl) ?_
                      refine lv_iconst (v := 1) hx hb d_L_law_612 (by decide) ?_
                      refine lv_iadd hx hb d_L_law_613 ?_
                      refine sk_as (y := nI (i + 1)) (nI_add (i) 1) ?_
                      refine lw_ld hx hb hX hbl hbA hS (show i + 1 < L by omega) hL d_L_law_614 ?_
                      have hPa : va_P D cl_L (ws_N cI r rr ra th Sr (off, nm, ng, now, F, R) ++ ((q, .inl (cJ, 1, .inr (.inl f1))) :: ws_C cM cG o am ag pm pg1 (sp_pr (off, nm, ng, now, F, R) (xs (i + 1))).2.2)) H1 := wk_sw (wa := ((q, .inl (cJ, 1, .inr (.inl f1))) :: ws_C cM cG o am ag pm pg1 (sp_pr (off, nm, ng, now, F, R) (xs (i + 1))).2.2)) hP
                      have hDa : va_D A (ws_N cI r rr ra th Sr (off, nm, ng, now, F, R) ++ ((q, .inl (cJ, 1, .inr (.inl f1))) :: ws_C cM cG o am ag pm pg1 (sp_pr (off, nm, ng, now, F, R) (xs (i + 1))).2.2)) := wk_swD (wa := ((q, .inl (cJ, 1, .inr (.inl f1))) :: ws_C cM cG o am ag pm pg1 (sp_pr (off, nm, ng, now, F, R) (xs (i + 1))).2.2)) hD
                      have hF9 := wk_F (wk_LD hDa) hS hA
                      refine cm_Vi (n := 1) [.int (xs (i + 1))] hC (t_N_proof l D cM cG cI cJ r rr ra th Sr off nm ng now F R _ (xs (i + 1)) t9 hI hSr) ⟨kc_N_proof, kn_N, k_L_94, ki_N_proof, kv_N_proof⟩ (by decide +kernel) ⟨rfl, rfl, Nat.le_of_ble_eq_true rfl, Nat.le_of_ble_eq_true rfl⟩ x_0 (yt_Y D cM cG cI cJ) hY trivial (va_recv hK (wk_L hPa) (ci := 3) (q0 := 0) rfl rfl) (wk_L hPa) (wk_T (wk_LD hDa)) hS hF9 rfl hl.1 rfl (Nat.le_of_ble_eq_true rfl) d_L_law_615 ⟨by show 25 + 200 * j + 1 + 0 ≤ room_1.cells; have := rs_c; omega, by show 3432 + 1400 * j + 6 + 0 ≤ room_1.slots; have := rs_s; omega⟩ (fun v1 u1 H2 locs2 hv9 hP1 hD1 hz9 hk9 hS1 => ?_)
                      obtain ⟨hP2, hD2⟩ := jn_L hPa hDa hk9 hF9 hP1 hD1
                      replace hP2 := wk_sw hP2
                      replace hD2 := wk_swD hD2
                      have hP : va_P D cl_L ((q, .inl (cJ, 1, .inr (.inl f1))) :: (ws_C cM cG o am ag pm pg1 (sp_pr (off, nm, ng, now, F, R) (xs (i + 1))).2.2 ++ ws_N cI r rr ra ((sp_pr (off, nm, ng, now, F, R) (xs (i + 1))).1) u1 (sp_pr (off, nm, ng, now, F, R) (xs (i + 1))).2.2)) H2 := hP2
                      have hD : va_D A ((q, .inl (cJ, 1, .inr (.inl f1))) :: (ws_C cM cG o am ag pm pg1 (sp_pr (off, nm, ng, now, F, R) (xs (i + 1))).2.2 ++ ws_N cI r rr ra ((sp_pr (off, nm, ng, now, F, R) (xs (i + 1))).1) u1 (sp_pr (off, nm, ng, now, F, R) (xs (i + 1))).2.2)) := hD2
                      have hS := hS1
                      clear hPa hDa hF9 hP1 hD1 hP2 hD2 hS1 hk9 hz9
                      obtain ⟨th1, hth1⟩ : ∃ th1 : Int32, th1 = (sp_pr (off, nm, ng, now, F, R) (xs (i + 1))).1 := ⟨_, rfl⟩
                      have hr1 : r1 = th1 := hw9.1.trans hth1.symm
                      have hv1 : th1 = 0 → f1 0 = v1.toInt64 := fun z => by rw [hv9.1 (hth1.symm.trans z)]; exact hw9.2 (hth1.symm.trans z)
                      obtain ⟨σ1, hσ1⟩ : ∃ σ1 : st_T, σ1 = (sp_pr (off, nm, ng, now, F, R) (xs (i + 1))).2.2 := ⟨_, rfl⟩
                      have hI1 : iv_S t9 σ1 := by rw [hσ1]; exact kp_pr hI (xs (i + 1))
                      have hSr1 : sr_P u1 σ1 := by rw [hσ1]; exact hv9.2
                      rw [← hσ1, ← hth1] at hP hD
                      clear hσ1
                      obtain ⟨off1, nm1, ng1, now1, F1, R1⟩ := σ1
                      refine lv_istore (lv' := [(6, .int v1), (5, .int r1), (0, .ref b), (1, .ref o), (2, .ref r), (3, .ref q), (4, .int (nI i))]) hx hb d_L_law_618 hl (by decide) rfl (fun ls hl => ?_)
                      refine lv_aload_n hx hb d_L_law_620 rfl (lv_at hl 4 rfl) ?_
                      have hPa : va_P D cl_L (ws_N cI r rr ra th1 u1 (off1, nm1, ng1, now1, F1, R1) ++ ((q, .inl (cJ, 1, .inr (.inl f1))) :: ws_C cM cG o am ag pm pg1 (off1, nm1, ng1, now1, F1, R1))) H2 := wk_sw (wa := ((q, .inl (cJ, 1, .inr (.inl f1))) :: ws_C cM cG o am ag pm pg1 (off1, nm1, ng1, now1, F1, R1))) hP
                      have hDa : va_D A (ws_N cI r rr ra th1 u1 (off1, nm1, ng1, now1, F1, R1) ++ ((q, .inl (cJ, 1, .inr (.inl f1))) :: ws_C cM cG o am ag pm pg1 (off1, nm1, ng1, now1, F1, R1))) := wk_swD (wa := ((q, .inl (cJ, 1, .inr (.inl f1))) :: ws_C cM cG o am ag pm pg1 (off1, nm1, ng1, now1, F1, R1))) hD
                      have hF9 := wk_F (wk_LD hDa) hS hA
                      refine cp_V (n := 0) [] hC (t_N_thrown l D cM cG cI cJ r rr ra th1 u1 off1 nm1 ng1 now1 F1 R1) ⟨kc_N_thrown, kn_N, k_L_65, ki_N_thrown, kv_N_thrown⟩ (by decide +kernel) ⟨rfl, rfl, Nat.le_of_ble_eq_true rfl, Nat.le_of_ble_eq_true rfl⟩ x_0 (yt_Y D cM cG cI cJ) hY (wk_L hPa) (va_recv hK (wk_L hPa) (ci := 3) (q0 := 0) rfl rfl) rfl hl.1 rfl (Nat.le_of_ble_eq_true rfl) d_L_law_621 ⟨by show 25 + 200 * j + 1 + 0 + 0 ≤ room_1.cells; have := rs_c; omega, by show 3432 + 1400 * j + 6 + 0 + 0 ≤ room_1.slots; have := rs_s; omega⟩ (fun r2 h2 => ?_)
                      rw [h2]
                      clear hPa hDa hF9 h2
                      refine lv_iload hx hb d_L_law_624 (lv_at hl 1 rfl) ?_
                      refine lv_icmp_eq (tgt := 631) hx hb d_L_law_626 (by decide) (fun _ => ?_) (fun c29 => absurd hr1.symm c29)
                      refine lv_iload hx hb d_L_law_631 (lv_at hl 1 rfl) ?_
                      refine lv_if_ne (tgt := 648) hx hb d_L_law_633 (by decide) (fun c30 => ?_) (fun c30 => ?_)
                      · refine lv_goto (tgt := 880) hx hb d_L_law_648 (by decide) ?_
                        refine lv_iinc (v := nI (i + 7)) (lv' := [(4, .int (nI (i + 7))), (6, .int v1), (5, .int r1), (0, .ref b), (1, .ref o), (2, .ref r), (3, .ref q)]) hx hb d_L_law_880 hl (k := 6) rfl (nI_add i 7) (by decide) rfl (fun ls hl => ?_)
                        refine lv_goto (tgt := 33) hx hb d_L_law_883 (by decide) ?_
                        refine W.widen (k := 25 + 200 * (j + 1)) (n := 3432 + 1400 * (j + 1)) (by omega) (by omega) ?_
                        exact ih (i + 7) (j + 1) t9 off1 nm1 ng1 now1 F1 R1 pm pg1 th1 u1 f1 _ _ _ (by omega) (by omega) (by omega) hI1 hSr1 hP hD hS (lv_sub hl [3, 4, 5, 6, 0] rfl)
                      · refine lv_aload_n hx hb d_L_law_636 rfl (lv_at hl 5 rfl) ?_
                        refine lv_iconst (v := 0) hx hb d_L_law_637 (by decide) ?_
                        refine va_lald hx hb hK hP 0 3 rfl rfl vi_01 d_L_law_638 ?_
                        refine lv_iload hx hb d_L_law_639 (lv_at hl 0 rfl) ?_
                        refine lv_i2l (v := v1.toInt64) hx hb d_L_law_641 rfl ?_
                        refine W.lcmp hx hb d_L_law_642 ?_
                        refine lv_if_eq (tgt := 648) hx hb d_L_law_643 (by decide) (fun _ => ?_) (fun c31 => absurd ((lg_cmp_eq _ _).mpr (hv1 (hr1.symm.trans c30))) c31)
                        refine lv_goto (tgt := 880) hx hb d_L_law_648 (by decide) ?_
                        refine lv_iinc (v := nI (i + 7)) (lv' := [(4, .int (nI (i + 7))), (6, .int v1), (5, .int r1), (0, .ref b), (1, .ref o), (2, .ref r), (3, .ref q)]) hx hb d_L_law_880 hl (k := 6) rfl (nI_add i 7) (by decide) rfl (fun ls hl => ?_)
                        refine lv_goto (tgt := 33) hx hb d_L_law_883 (by decide) ?_
                        refine W.widen (k := 25 + 200 * (j + 1)) (n := 3432 + 1400 * (j + 1)) (by omega) (by omega) ?_
                        exact ih (i + 7) (j + 1) t9 off1 nm1 ng1 now1 F1 R1 pm pg1 th1 u1 f1 _ _ _ (by omega) (by omega) (by omega) hI1 hSr1 hP hD hS (lv_sub hl [3, 4, 5, 6, 0] rfl)
                    · by_cases e32 : ((xs i) &&& 15) = 8
                      · refine sk_as e32 ?_
                        refine lv_tableIn (off := 601) (tgt := 651) hx hb d_L_law_50 (by decide) (by decide) rfl (by decide) ?_
                        refine lv_aload_n hx hb d_L_law_651 rfl (lv_at hl 1 rfl) ?_
                        refine lv_aload_n hx hb d_L_law_652 rfl (lv_at hl 0 rfl) ?_
                        refine lv_iload hx hb d_L_law_653 (lv_at hl 4 rfl) ?_
                        refine lv_iconst (v := 1) hx hb d_L_law_655 (by decide) ?_
                        refine lv_iadd hx hb d_L_law_656 ?_
                        refine sk_as (y := nI (i + 1)) (nI_add (i) 1) ?_
                        refine lw_ld hx hb hX hbl hbA hS (show i + 1 < L by omega) hL d_L_law_657 ?_
                        refine lv_aload_n hx hb d_L_law_658 rfl (lv_at hl 0 rfl) ?_
                        refine lv_iload hx hb d_L_law_659 (lv_at hl 4 rfl) ?_
                        refine lv_iconst (v := 2) hx hb d_L_law_661 (by decide) ?_
                        refine lv_iadd hx hb d_L_law_662 ?_
                        refine sk_as (y := nI (i + 2)) (nI_add (i) 2) ?_
                        refine lw_ld hx hb hX hbl hbA hS (show i + 2 < L by omega) hL d_L_law_663 ?_
                        refine lv_aload_n hx hb d_L_law_664 rfl (lv_at hl 3 rfl) ?_
                        have hPa : va_P D cl_L (((q, .inl (cJ, 1, .inr (.inl f))) :: ws_C cM cG o am ag pm pg (off, nm, ng, now, F, R)) ++ ws_N cI r rr ra th Sr (off, nm, ng, now, F, R)) H := hP
                        have hDa : va_D A (((q, .inl (cJ, 1, .inr (.inl f))) :: ws_C cM cG o am ag pm pg (off, nm, ng, now, F, R)) ++ ws_N cI r rr ra th Sr (off, nm, ng, now, F, R)) := hD
                        have hF9 := wk_F (wk_LD hDa) hS hA
                        refine cm_SW (n := 4) [.ref o, .int (xs (i + 1)), .int (xs (i + 2)), .ref q] hC (t_L_state l D cM cG cI cJ o am ag pm pg off nm ng now F R q f _ (xs (i + 1)) (xs (i + 2)) hl0 t9 hI) ⟨kw_L_state, kn_L, k_L_95, ks_L_state⟩ (by decide +kernel) ⟨rfl, rfl, Nat.le_of_ble_eq_true rfl, Nat.le_of_ble_eq_true rfl⟩ sz_2 (yt_Y D cM cG cI cJ) hY ⟨sx_k hXs hS hF9, sa_k hXa hS hF9⟩ (wk_L hPa) (wk_T (wk_LD hDa)) hS hF9 rfl hl.1 rfl (Nat.le_of_ble_eq_true rfl) d_L_law_665 ⟨by show 25 + 200 * j + 1 ≤ room_1.cells; have := rs_c; omega, by show 3432 + 1400 * j + 6 ≤ room_1.slots; have := rs_s; omega⟩ (fun r1 u H1 locs1 hw9 hP1 hD1 hz9 hk9 hS1 => ?_)
                        obtain ⟨f1, hf1⟩ : ∃ f1, f1 = u := ⟨u, rfl⟩
                        subst hf1
                        have hw9 : r1 = (sp_st (off, nm, ng, now, F, R) (xs (i + 1)) (xs (i + 2))).1 ∧ ((sp_st (off, nm, ng, now, F, R) (xs (i + 1)) (xs (i + 2))).1 = 0 → f1 0 = ((sp_st (off, nm, ng, now, F, R) (xs (i + 1)) (xs (i + 2))).2).toInt64) := hw9
                        obtain ⟨hP2, hD2⟩ := jn_L hPa hDa hk9 hF9 hP1 hD1
                        have hP : va_P D cl_L ((q, .inl (cJ, 1, .inr (.inl f1))) :: (ws_C cM cG o am ag pm pg (off, nm, ng, now, F, R) ++ ws_N cI r rr ra th Sr (off, nm, ng, now, F, R))) H1 := hP2
                        have hD : va_D A ((q, .inl (cJ, 1, .inr (.inl f1))) :: (ws_C cM cG o am ag pm pg (off, nm, ng, now, F, R) ++ ws_N cI r rr ra th Sr (off, nm, ng, now, F, R))) := hD2
                        have hS := hS1
                        clear hPa hDa hF9 hP1 hD1 hP2 hD2 hS1 hk9 hz9
                        refine lv_istore (lv' := [(5, .int r1), (0, .ref b), (1, .ref o), (2, .ref r), (3, .ref q), (4, .int (nI i))]) hx hb d_L_law_668 hl (by decide) rfl (fun ls hl => ?_)
                        refine lv_aload_n hx hb d_L_law_670 rfl (lv_at hl 3 rfl) ?_
                        refine lv_aload_n hx hb d_L_law_671 rfl (lv_at hl 1 rfl) ?_
                        refine lv_iload hx hb d_L_law_672 (lv_at hl 5 rfl) ?_
                        refine lv_iconst (v := 1) hx hb d_L_law_674 (by decide) ?_
                        refine lv_iadd hx hb d_L_law_675 ?_
                        refine sk_as (y := nI (i + 1)) (nI_add (i) 1) ?_
                        refine lw_ld hx hb hX hbl hbA hS (show i + 1 < L by omega) hL d_L_law_676 ?_
                        refine lv_aload_n hx hb d_L_law_677 rfl (lv_at hl 1 rfl) ?_
                        refine lv_iload hx hb d_L_law_678 (lv_at hl 5 rfl) ?_
                        refine lv_iconst (v := 2) hx hb d_L_law_680 (by decide) ?_
                        refine lv_iadd hx hb d_L_law_681 ?_
                        refine sk_as (y := nI (i + 2)) (nI_add (i) 2) ?_
                        refine lw_ld hx hb hX hbl hbA hS (show i + 2 < L by omega) hL d_L_law_682 ?_
                        have hPa : va_P D cl_L (ws_N cI r rr ra th Sr (off, nm, ng, now, F, R) ++ ((q, .inl (cJ, 1, .inr (.inl f1))) :: ws_C cM cG o am ag pm pg (off, nm, ng, now, F, R))) H1 := wk_sw (wa := ((q, .inl (cJ, 1, .inr (.inl f1))) :: ws_C cM cG o am ag pm pg (off, nm, ng, now, F, R))) hP
                        have hDa : va_D A (ws_N cI r rr ra th Sr (off, nm, ng, now, F, R) ++ ((q, .inl (cJ, 1, .inr (.inl f1))) :: ws_C cM cG o am ag pm pg (off, nm, ng, now, F, R))) := wk_swD (wa := ((q, .inl (cJ, 1, .inr (.inl f1))) :: ws_C cM cG o am ag pm pg (off, nm, ng, now, F, R))) hD
                        have hF9 := wk_F (wk_LD hDa) hS hA
                        refine cm_Vi (n := 2) [.int (xs (i + 1)), .int (xs (i + 2))] hC (t_N_state l D cM cG cI cJ r rr ra th Sr off nm ng now F R _ (xs (i + 1)) (xs (i + 2)) t9 hI hSr) ⟨kc_N_state, kn_N, k_L_97, ki_N_state, kv_N_state⟩ (by decide +kernel) ⟨rfl, rfl, Nat.le_of_ble_eq_true rfl, Nat.le_of_ble_eq_true rfl⟩ x_0 (yt_Y D cM cG cI cJ) hY trivial (va_recv hK (wk_L hPa) (ci := 3) (q0 := 0) rfl rfl) (wk_L hPa) (wk_T (wk_LD hDa)) hS hF9 rfl hl.1 rfl (Nat.le_of_ble_eq_true rfl) d_L_law_683 ⟨by show 25 + 200 * j + 1 + 0 ≤ room_1.cells; have := rs_c; omega, by show 3432 + 1400 * j + 6 + 0 ≤ room_1.slots; have := rs_s; omega⟩ (fun v1 u1 H2 locs2 hv9 hP1 hD1 hz9 hk9 hS1 => ?_)
                        obtain ⟨hP2, hD2⟩ := jn_L hPa hDa hk9 hF9 hP1 hD1
                        replace hP2 := wk_sw hP2
                        replace hD2 := wk_swD hD2
                        have hP : va_P D cl_L ((q, .inl (cJ, 1, .inr (.inl f1))) :: (ws_C cM cG o am ag pm pg (off, nm, ng, now, F, R) ++ ws_N cI r rr ra ((sp_st (off, nm, ng, now, F, R) (xs (i + 1)) (xs (i + 2))).1) Sr (off, nm, ng, now, F, R))) H2 := hP2
                        have hD : va_D A ((q, .inl (cJ, 1, .inr (.inl f1))) :: (ws_C cM cG o am ag pm pg (off, nm, ng, now, F, R) ++ ws_N cI r rr ra ((sp_st (off, nm, ng, now, F, R) (xs (i + 1)) (xs (i + 2))).1) Sr (off, nm, ng, now, F, R))) := hD2
                        have hS := hS1
                        clear hPa hDa hF9 hP1 hD1 hP2 hD2 hS1 hk9 hz9
                        obtain ⟨th1, hth1⟩ : ∃ th1 : Int32, th1 = (sp_st (off, nm, ng, now, F, R) (xs (i + 1)) (xs (i + 2))).1 := ⟨_, rfl⟩
                        have hr1 : r1 = th1 := hw9.1.trans hth1.symm
                        have hv1 : th1 = 0 → f1 0 = v1.toInt64 := fun z => by rw [hv9 (hth1.symm.trans z)]; exact hw9.2 (hth1.symm.trans z)
                        rw [← hth1] at hP hD
                        refine lv_istore (lv' := [(6, .int v1), (5, .int r1), (0, .ref b), (1, .ref o), (2, .ref r), (3, .ref q), (4, .int (nI i))]) hx hb d_L_law_686 hl (by decide) rfl (fun ls hl => ?_)
                        refine lv_aload_n hx hb d_L_law_688 rfl (lv_at hl 4 rfl) ?_
                        have hPa : va_P D cl_L (ws_N cI r rr ra th1 Sr (off, nm, ng, now, F, R) ++ ((q, .inl (cJ, 1, .inr (.inl f1))) :: ws_C cM cG o am ag pm pg (off, nm, ng, now, F, R))) H2 := wk_sw (wa := ((q, .inl (cJ, 1, .inr (.inl f1))) :: ws_C cM cG o am ag pm pg (off, nm, ng, now, F, R))) hP
                        have hDa : va_D A (ws_N cI r rr ra th1 Sr (off, nm, ng, now, F, R) ++ ((q, .inl (cJ, 1, .inr (.inl f1))) :: ws_C cM cG o am ag pm pg (off, nm, ng, now, F, R))) := wk_swD (wa := ((q, .inl (cJ, 1, .inr (.inl f1))) :: ws_C cM cG o am ag pm pg (off, nm, ng, now, F, R))) hD
                        have hF9 := wk_F (wk_LD hDa) hS hA
                        refine cp_V (n := 0) [] hC (t_N_thrown l D cM cG cI cJ r rr ra th1 Sr off nm ng now F R) ⟨kc_N_thrown, kn_N, k_L_65, ki_N_thrown, kv_N_thrown⟩ (by decide +kernel) ⟨rfl, rfl, Nat.le_of_ble_eq_true rfl, Nat.le_of_ble_eq_true rfl⟩ x_0 (yt_Y D cM cG cI cJ) hY (wk_L hPa) (va_recv hK (wk_L hPa) (ci := 3) (q0 := 0) rfl rfl) rfl hl.1 rfl (Nat.le_of_ble_eq_true rfl) d_L_law_689 ⟨by show 25 + 200 * j + 1 + 0 + 0 ≤ room_1.cells; have := rs_c; omega, by show 3432 + 1400 * j + 6 + 0 + 0 ≤ room_1.slots; have := rs_s; omega⟩ (fun r2 h2 => ?_)
                        rw [h2]
                        clear hPa hDa hF9 h2
                        refine lv_iload hx hb d_L_law_692 (lv_at hl 1 rfl) ?_
                        refine lv_icmp_eq (tgt := 699) hx hb d_L_law_694 (by decide) (fun _ => ?_) (fun c33 => absurd hr1.symm c33)
                        refine lv_iload hx hb d_L_law_699 (lv_at hl 1 rfl) ?_
                        refine lv_if_ne (tgt := 716) hx hb d_L_law_701 (by decide) (fun c34 => ?_) (fun c34 => ?_)
                        · refine lv_goto (tgt := 880) hx hb d_L_law_716 (by decide) ?_
                          refine lv_iinc (v := nI (i + 7)) (lv' := [(4, .int (nI (i + 7))), (6, .int v1), (5, .int r1), (0, .ref b), (1, .ref o), (2, .ref r), (3, .ref q)]) hx hb d_L_law_880 hl (k := 6) rfl (nI_add i 7) (by decide) rfl (fun ls hl => ?_)
                          refine lv_goto (tgt := 33) hx hb d_L_law_883 (by decide) ?_
                          refine W.widen (k := 25 + 200 * (j + 1)) (n := 3432 + 1400 * (j + 1)) (by omega) (by omega) ?_
                          exact ih (i + 7) (j + 1) t9 off nm ng now F R pm pg th1 Sr f1 _ _ _ (by omega) (by omega) (by omega) hI hSr hP hD hS (lv_sub hl [3, 4, 5, 6, 0] rfl)
                        · refine lv_aload_n hx hb d_L_law_704 rfl (lv_at hl 5 rfl) ?_
                          refine lv_iconst (v := 0) hx hb d_L_law_705 (by decide) ?_
                          refine va_lald hx hb hK hP 0 3 rfl rfl vi_01 d_L_law_706 ?_
                          refine lv_iload hx hb d_L_law_707 (lv_at hl 0 rfl) ?_
                          refine lv_i2l (v := v1.toInt64) hx hb d_L_law_709 rfl ?_
                          refine W.lcmp hx hb d_L_law_710 ?_
                          refine lv_if_eq (tgt := 716) hx hb d_L_law_711 (by decide) (fun _ => ?_) (fun c35 => absurd ((lg_cmp_eq _ _).mpr (hv1 (hr1.symm.trans c34))) c35)
                          refine lv_goto (tgt := 880) hx hb d_L_law_716 (by decide) ?_
                          refine lv_iinc (v := nI (i + 7)) (lv' := [(4, .int (nI (i + 7))), (6, .int v1), (5, .int r1), (0, .ref b), (1, .ref o), (2, .ref r), (3, .ref q)]) hx hb d_L_law_880 hl (k := 6) rfl (nI_add i 7) (by decide) rfl (fun ls hl => ?_)
                          refine lv_goto (tgt := 33) hx hb d_L_law_883 (by decide) ?_
                          refine W.widen (k := 25 + 200 * (j + 1)) (n := 3432 + 1400 * (j + 1)) (by omega) (by omega) ?_
                          exact ih (i + 7) (j + 1) t9 off nm ng now F R pm pg th1 Sr f1 _ _ _ (by omega) (by omega) (by omega) hI hSr hP hD hS (lv_sub hl [3, 4, 5, 6, 0] rfl)
                      · by_cases e36 : ((xs i) &&& 15) = 9
                        · refine sk_as e36 ?_
                          refine lv_tableIn (off := 669) (tgt := 719) hx hb d_L_law_50 (by decide) (by decide) rfl (by decide) ?_
                          refine lv_aload_n hx hb d_L_law_719 rfl (lv_at hl 1 rfl) ?_
                          refine lv_aload_n hx hb d_L_law_720 rfl (lv_at hl 0 rfl) ?_
                          refine lv_iload hx hb d_L_law_721 (lv_at hl 4 rfl) ?_
                          refine lv_iconst (v := 1) hx hb d_L_law_723 (by decide) ?_
                          refine lv_iadd hx hb d_L_law_724 ?_
                          refine sk_as (y := nI (i + 1)) (nI_add (i) 1) ?_
                          refine lw_ld hx hb hX hbl hbA hS (show i + 1 < L by omega) hL d_L_law_725 ?_
                          refine lv_aload_n hx hb d_L_law_726 rfl (lv_at hl 0 rfl) ?_
                          refine lv_iload hx hb d_L_law_727 (lv_at hl 4 rfl) ?_
                          refine lv_iconst (v := 2) hx hb d_L_law_729 (by decide) ?_
                          refine lv_iadd hx hb d_L_law_730 ?_
                          refine sk_as (y := nI (i + 2)) (nI_add (i) 2) ?_
                          refine lw_ld hx hb hX hbl hbA hS (show i + 2 < L by omega) hL d_L_law_731 ?_
                          refine lv_aload_n hx hb d_L_law_732 rfl (lv_at hl 3 rfl) ?_
                          have hPa : va_P D cl_L (((q, .inl (cJ, 1, .inr (.inl f))) :: ws_C cM cG o am ag pm pg (off, nm, ng, now, F, R)) ++ ws_N cI r rr ra th Sr (off, nm, ng, now, F, R)) H := hP
                          have hDa : va_D A (((q, .inl (cJ, 1, .inr (.inl f))) :: ws_C cM cG o am ag pm pg (off, nm, ng, now, F, R)) ++ ws_N cI r rr ra th Sr (off, nm, ng, now, F, R)) := hD
                          have hF9 := wk_F (wk_LD hDa) hS hA
                          refine cm_SW (n := 4) [.ref o, .int (xs (i + 1)), .int (xs (i + 2)), .ref q] hC (t_L_office l D cM cG cI cJ o am ag pm pg off nm ng now F R q f _ (xs (i + 1)) (xs (i + 2)) hl0 t9 hI) ⟨kw_L_office, kn_L, k_L_98, ks_L_office⟩ (by decide +kernel) ⟨rfl, rfl, Nat.le_of_ble_eq_true rfl, Nat.le_of_ble_eq_true rfl⟩ sz_2 (yt_Y D cM cG cI cJ) hY ⟨sx_k hXs hS hF9, sa_k hXa hS hF9⟩ (wk_L hPa) (wk_T (wk_LD hDa)) hS hF9 rfl hl.1 rfl (Nat.le_of_ble_eq_true rfl) d_L_law_733 ⟨by show 25 + 200 * j + 1 ≤ room_1.cells; have := rs_c; omega, by show 3432 + 1400 * j + 6 ≤ room_1.slots; have := rs_s; omega⟩ (fun r1 u H1 locs1 hw9 hP1 hD1 hz9 hk9 hS1 => ?_)
                          obtain ⟨f1, hf1⟩ : ∃ f1, f1 = u := ⟨u, rfl⟩
                          subst hf1
                          have hw9 : r1 = (sp_of (off, nm, ng, now, F, R) (xs (i + 1)) (xs (i + 2))).1 ∧ ((sp_of (off, nm, ng, now, F, R) (xs (i + 1)) (xs (i + 2))).1 = 0 → f1 0 = ((sp_of (off, nm, ng, now, F, R) (xs (i + 1)) (xs (i + 2))).2).toInt64) := hw9
                          obtain ⟨hP2, hD2⟩ := jn_L hPa hDa hk9 hF9 hP1 hD1
                          have hP : va_P D cl_L ((q, .inl (cJ, 1, .inr (.inl f1))) :: (ws_C cM cG o am ag pm pg (off, nm, ng, now, F, R) ++ ws_N cI r rr ra th Sr (off, nm, ng, now, F, R))) H1 := hP2
                          have hD : va_D A ((q, .inl (cJ, 1, .inr (.inl f1))) :: (ws_C cM cG o am ag pm pg (off, nm, ng, now, F, R) ++ ws_N cI r rr ra th Sr (off, nm, ng, now, F, R))) := hD2
                          have hS := hS1
                          clear hPa hDa hF9 hP1 hD1 hP2 hD2 hS1 hk9 hz9
                          refine lv_istore (lv' := [(5, .int r1), (0, .ref b), (1, .ref o), (2, .ref r), (3, .ref q), (4, .int (nI i))]) hx hb d_L_law_736 hl (by decide) rfl (fun ls hl => ?_)
                          refine lv_aload_n hx hb d_L_law_738 rfl (lv_at hl 3 rfl) ?_
                          refine lv_aload_n hx hb d_L_law_739 rfl (lv_at hl 1 rfl) ?_
                          refine lv_iload hx hb d_L_law_740 (lv_at hl 5 rfl) ?_
                          refine lv_iconst (v := 1) hx hb d_L_law_742 (by decide) ?_
                          refine lv_iadd hx hb d_L_law_743 ?_
                          refine sk_as (y := nI (i + 1)) (nI_add (i) 1) ?_
                          refine lw_ld hx hb hX hbl hbA hS (show i + 1 < L by omega) hL d_L_law_744 ?_
                          refine lv_aload_n hx hb d_L_law_745 rfl (lv_at hl 1 rfl) ?_
                          refine lv_iload hx hb d_L_law_746 (lv_at hl 5 rfl) ?_
                          refine lv_iconst (v := 2) hx hb d_L_law_748 (by decide) ?_
                          refine lv_iadd hx hb d_L_law_749 ?_
                          refine sk_as (y := nI (i + 2)) (nI_add (i) 2) ?_
                          refine lw_ld hx hb hX hbl hbA hS (show i + 2 < L by omega) hL d_L_law_750 ?_
                          have hPa : va_P D cl_L (ws_N cI r rr ra th Sr (off, nm, ng, now, F, R) ++ ((q, .inl (cJ, 1, .inr (.inl f1))) :: ws_C cM cG o am ag pm pg (off, nm, ng, now, F, R))) H1 := wk_sw (wa := ((q, .inl (cJ, 1, .inr (.inl f1))) :: ws_C cM cG o am ag pm pg (off, nm, ng, now, F, R))) hP
                          have hDa : va_D A (ws_N cI r rr ra th Sr (off, nm, ng, now, F, R) ++ ((q, .inl (cJ, 1, .inr (.inl f1))) :: ws_C cM cG o am ag pm pg (off, nm, ng, now, F, R))) := wk_swD (wa := ((q, .inl (cJ, 1, .inr (.inl f1))) :: ws_C cM cG o am ag pm pg (off, nm, ng, now, F, R))) hD
                          have hF9 := wk_F (wk_LD hDa) hS hA
                          refine cm_Vi (n := 2) [.int (xs (i + 1)), .int (xs (i + 2))] hC (t_N_office l D cM cG cI cJ r rr ra th Sr off nm ng now F R _ (xs (i + 1)) (xs (i + 2)) t9 hI hSr) ⟨kc_N_office, kn_N, k_L_100, ki_N_office, kv_N_office⟩ (by decide +kernel) ⟨rfl, rfl, Nat.le_of_ble_eq_true rfl, Nat.le_of_ble_eq_true rfl⟩ x_0 (yt_Y D cM cG cI cJ) hY trivial (va_recv hK (wk_L hPa) (ci := 3) (q0 := 0) rfl rfl) (wk_L hPa) (wk_T (wk_LD hDa)) hS hF9 rfl hl.1 rfl (Nat.le_of_ble_eq_true rfl) d_L_law_751 ⟨by show 25 + 200 * j + 1 + 0 ≤ room_1.cells; have := rs_c; omega, by show 3432 + 1400 * j + 6 + 0 ≤ room_1.slots; have := rs_s; omega⟩ (fun v1 u1 H2 locs2 hv9 hP1 hD1 hz9 hk9 hS1 => ?_)
                          obtain ⟨hP2, hD2⟩ := jn_L hPa hDa hk9 hF9 hP1 hD1
                          replace hP2 := wk_sw hP2
                          replace hD2 := wk_swD hD2
                          have hP : va_P D cl_L ((q, .inl (cJ, 1, .inr (.inl f1))) :: (ws_C cM cG o am ag pm pg (off, nm, ng, now, F, R) ++ ws_N cI r rr ra ((sp_of (off, nm, ng, now, F, R) (xs (i + 1)) (xs (i + 2))).1) Sr (off, nm, ng, now, F, R))) H2 := hP2
                          have hD : va_D A ((q, .inl (cJ, 1, .inr (.inl f1))) :: (ws_C cM cG o am ag pm pg (off, nm, ng, now, F, R) ++ ws_N cI r rr ra ((sp_of (off, nm, ng, now, F, R) (xs (i + 1)) (xs (i + 2))).1) Sr (off, nm, ng, now, F, R))) := hD2
                          have hS := hS1
                          clear hPa hDa hF9 hP1 hD1 hP2 hD2 hS1 hk9 hz9
                          obtain ⟨th1, hth1⟩ : ∃ th1 : Int32, th1 = (sp_of (off, nm, ng, now, F, R) (xs (i + 1)) (xs (i + 2))).1 := ⟨_, rfl⟩
                          have hr1 : r1 = th1 := hw9.1.trans hth1.symm
                          have hv1 : th1 = 0 → f1 0 = v1.toInt64 := fun z => by rw [hv9 (hth1.symm.trans z)]; exact hw9.2 (hth1.symm.trans z)
                          rw [← hth1] at hP hD
                          refine lv_istore (lv' := [(6, .int v1), (5, .int r1), (0, .ref b), (1, .ref o), (2, .ref r), (3, .ref q), (4, .int (nI i))]) hx hb d_L_law_754 hl (by decide) rfl (fun ls hl => ?_)
                          refine lv_aload_n hx hb d_L_law_756 rfl (lv_at hl 4 rfl) ?_
                          have hPa : va_P D cl_L (ws_N cI r rr ra th1 Sr (off, nm, ng, now, F, R) ++ ((q, .inl (cJ, 1, .inr (.inl f1))) :: ws_C cM cG o am ag pm pg (off, nm, ng, now, F, R))) H2 := wk_sw (wa := ((q, .inl (cJ, 1, .inr (.inl f1))) :: ws_C cM cG o am ag pm pg (off, nm, ng, now, F, R))) hP
                          have hDa : va_D A (ws_N cI r rr ra th1 Sr (off, nm, ng, now, F, R) ++ ((q, .inl (cJ, 1, .inr (.inl f1))) :: ws_C cM cG o am ag pm pg (off, nm, ng, now, F, R))) := wk_swD (wa := ((q, .inl (cJ, 1, .inr (.inl f1))) :: ws_C cM cG o am ag pm pg (off, nm, ng, now, F, R))) hD
                          have hF9 := wk_F (wk_LD hDa) hS hA
                          refine cp_V (n := 0) [] hC (t_N_thrown l D cM cG cI cJ r rr ra th1 Sr off nm ng now F R) ⟨kc_N_thrown, kn_N, k_L_65, ki_N_thrown, kv_N_thrown⟩ (by decide +kernel) ⟨rfl, rfl, Nat.le_of_ble_eq_true rfl, Nat.le_of_ble_eq_true rfl⟩ x_0 (yt_Y D cM cG cI cJ) hY (wk_L hPa) (va_recv hK (wk_L hPa) (ci := 3) (q0 := 0) rfl rfl) rfl hl.1 rfl (Nat.le_of_ble_eq_true rfl) d_L_law_757 ⟨by show 25 + 200 * j + 1 + 0 + 0 ≤ room_1.cells; have := rs_c; omega, by show 3432 + 1400 * j + 6 + 0 + 0 ≤ room_1.slots; have := rs_s; omega⟩ (fun r2 h2 => ?_)
                          rw [h2]
                          clear hPa hDa hF9 h2
                          refine lv_iload hx hb d_L_law_760 (lv_at hl 1 rfl) ?_
                          refine lv_icmp_eq (tgt := 767) hx hb d_L_law_762 (by decide) (fun _ => ?_) (fun c37 => absurd hr1.symm c37)
                          refine lv_iload hx hb d_L_law_767 (lv_at hl 1 rfl) ?_
                          refine lv_if_ne (tgt := 784) hx hb d_L_law_769 (by decide) (fun c38 => ?_) (fun c38 => ?_)
                          · refine lv_goto (tgt := 880) hx hb d_L_law_784 (by decide) ?_
                            refine lv_iinc (v := nI (i + 7)) (lv' := [(4, .int (nI (i + 7))), (6, .int v1), (5, .int r1), (0, .ref b), (1, .ref o), (2, .ref r), (3, .ref q)]) hx hb d_L_law_880 hl (k := 6) rfl (nI_add i 7) (by decide) rfl (fun ls hl => ?_)
                            refine lv_goto (tgt := 33) hx hb d_L_law_883 (by decide) ?_
                            refine W.widen (k := 25 + 200 * (j + 1)) (n := 3432 + 1400 * (j + 1)) (by omega) (by omega) ?_
                            exact ih (i + 7) (j + 1) t9 off nm ng now F R pm pg th1 Sr f1 _ _ _ (by omega) (by omega) (by omega) hI hSr hP hD hS (lv_sub hl [3, 4, 5, 6, 0] rfl)
                          · refine lv_aload_n hx hb d_L_law_772 rfl (lv_at hl 5 rfl) ?_
                            refine lv_iconst (v := 0) hx hb d_L_law_773 (by decide) ?_
                            refine va_lald hx hb hK hP 0 3 rfl rfl vi_01 d_L_law_774 ?_
                            refine lv_iload hx hb d_L_law_775 (lv_at hl 0 rfl) ?_
                            refine lv_i2l (v := v1.toInt64) hx hb d_L_law_777 rfl ?_
                            refine W.lcmp hx hb d_L_law_778 ?_
                            refine lv_if_eq (tgt := 784) hx hb d_L_law_779 (by decide) (fun _ => ?_) (fun c39 => absurd ((lg_cmp_eq _ _).mpr (hv1 (hr1.symm.trans c38))) c39)
                            refine lv_goto (tgt := 880) hx hb d_L_law_784 (by decide) ?_
                            refine lv_iinc (v := nI (i + 7)) (lv' := [(4, .int (nI (i + 7))), (6, .int v1), (5, .int r1), (0, .ref b), (1, .ref o), (2, .ref r), (3, .ref q)]) hx hb d_L_law_880 hl (k := 6) rfl (nI_add i 7) (by decide) rfl (fun ls hl => ?_)
                            refine lv_goto (tgt := 33) hx hb d_L_law_883 (by decide) ?_
                            refine W.widen (k := 25 + 200 * (j + 1)) (n := 3432 + 1400 * (j + 1)) (by omega) (by omega) ?_
                            exact ih (i + 7) (j + 1) t9 off nm ng now F R pm pg th1 Sr f1 _ _ _ (by omega) (by omega) (by omega) hI hSr hP hD hS (lv_sub hl [3, 4, 5, 6, 0] rfl)
                        · by_cases e40 : ((xs i) &&& 15) = 10
                          · refine sk_as e40 ?_
                            refine lv_tableIn (off := 737) (tgt := 787) hx hb d_L_law_50 (by decide) (by decide) rfl (by decide) ?_
                            refine lv_aload_n hx hb d_L_law_787 rfl (lv_at hl 1 rfl) ?_
                            refine lv_aload_n hx hb d_L_law_788 rfl (lv_at hl 0 rfl) ?_
                            refine lv_iload hx hb d_L_law_789 (lv_at hl 4 rfl) ?_
                            refine lv_iconst (v := 1) hx hb d_L_law_791 (by decide) ?_
                            refine lv_iadd hx hb d_L_law_792 ?_
                            refine sk_as (y := nI (i + 1)) (nI_add (i) 1) ?_
                            refine lw_ld hx hb hX hbl hbA hS (show i + 1 < L by omega) hL d_L_law_793 ?_
                            refine lv_aload_n hx hb d_L_law_794 rfl (lv_at hl 0 rfl) ?_
                            refine lv_iload hx hb d_L_law_795 (lv_at hl 4 rfl) ?_
                            refine lv_iconst (v := 2) hx hb d_L_law_797 (by decide) ?_
                            refine lv_iadd hx hb d_L_law_798 ?_
                            refine sk_as (y := nI (i + 2)) (nI_add (i) 2) ?_
                            refine lw_ld hx hb hX hbl hbA hS (show i + 2 < L by omega) hL d_L_law_799 ?_
                            refine lv_aload_n hx hb d_L_law_800 rfl (lv_at hl 3 rfl) ?_
                            have hPa : va_P D cl_L (((q, .inl (cJ, 1, .inr (.inl f))) :: ws_C cM cG o am ag pm pg (off, nm, ng, now, F, R)) ++ ws_N cI r rr ra th Sr (off, nm, ng, now, F, R)) H := hP
                            have hDa : va_D A (((q, .inl (cJ, 1, .inr (.inl f))) :: ws_C cM cG o am ag pm pg (off, nm, ng, now, F, R)) ++ ws_N cI r rr ra th Sr (off, nm, ng, now, F, R)) := hD
                            have hF9 := wk_F (wk_LD hDa) hS hA
                            refine cm_SW (n := 4) [.ref o, .int (xs (i + 1)), .int (xs (i + 2)), .ref q] hC (t_L_message l D cM cG cI cJ o am ag pm pg off nm ng now F R q f _ (xs (i + 1)) (xs (i + 2)) hl0 t9 hI) ⟨kw_L_message, kn_L, k_L_101, ks_L_message⟩ (by decide +kernel) ⟨rfl, rfl, Nat.le_of_ble_eq_true rfl, Nat.le_of_ble_eq_true rfl⟩ sz_2 (yt_Y D cM cG cI cJ) hY ⟨sx_k hXs hS hF9, sa_k hXa hS hF9⟩ (wk_L hPa) (wk_T (wk_LD hDa)) hS hF9 rfl hl.1 rfl (Nat.le_of_ble_eq_true rfl) d_L_law_801 ⟨by show 25 + 200 * j + 1 ≤ room_1.cells; have := rs_c; omega, by show 3432 + 1400 * j + 6 ≤ room_1.slots; have := rs_s; omega⟩ (fun r1 u H1 locs1 hw9 hP1 hD1 hz9 hk9 hS1 => ?_)
                            obtain ⟨f1, hf1⟩ : ∃ f1, f1 = u := ⟨u, rfl⟩
                            subst hf1
                            have hw9 : r1 = (sp_me (off, nm, ng, now, F, R) (xs (i + 1)) (xs (i + 2))).1 ∧ ((sp_me (off, nm, ng, now, F, R) (xs (i + 1)) (xs (i + 2))).1 = 0 → f1 0 = ((sp_me (off, nm, ng, now, F, R) (xs (i + 1)) (xs (i + 2))).2).toInt64) := hw9
                            obtain ⟨hP2, hD2⟩ := jn_L hPa hDa hk9 hF9 hP1 hD1
                            have hP : va_P D cl_L ((q, .inl (cJ, 1, .inr (.inl f1))) :: (ws_C cM cG o am ag pm pg (off, nm, ng, now, F, R) ++ ws_N cI r rr ra th Sr (off, nm, ng, now, F, R))) H1 := hP2
                            have hD : va_D A ((q, .inl (cJ, 1, .inr (.inl f1))) :: (ws_C cM cG o am ag pm pg (off, nm, ng, now, F, R) ++ ws_N cI r rr ra th Sr (off, nm, ng, now, F, R))) := hD2
                            have hS := hS1
                            clear hPa hDa hF9 hP1 hD1 hP2 hD2 hS1 hk9 hz9
                            refine lv_istore (lv' := [(5, .int r1), (0, .ref b), (1, .ref o), (2, .ref r), (3, .ref q), (4, .int (nI i))]) hx hb d_L_law_804 hl (by decide) rfl (fun ls hl => ?_)
                            refine lv_aload_n hx hb d_L_law_806 rfl (lv_at hl 3 rfl) ?_
                            refine lv_aload_n hx hb d_L_law_807 rfl (lv_at hl 1 rfl) ?_
                            refine lv_iload hx hb d_L_law_808 (lv_at hl 5 rfl) ?_
                            refine lv_iconst (v := 1) hx hb d_L_law_810 (by decide) ?_
                            refine lv_iadd hx hb d_L_law_811 ?_
                            refine sk_as (y := nI (i + 1)) (nI_add (i) 1) ?_
                            refine lw_ld hx hb hX hbl hbA hS (show i + 1 < L by omega) hL d_L_law_812 ?_
                            refine lv_aload_n hx hb d_L_law_813 rfl (lv_at hl 1 rfl) ?_
                            refine lv_iload hx hb d_L_law_814 (lv_at hl 5 rfl) ?_
                            refine lv_iconst (v := 2) hx hb d_L_law_816 (by decide) ?_
                            refine lv_iadd hx hb d_L_law_817 ?_
                            refine sk_as (y := nI (i + 2)) (nI_add (i) 2) ?_
                            refine lw_ld hx hb hX hbl hbA hS (show i + 2 < L by omega) hL d_L_law_818 ?_
                            have hPa : va_P D cl_L (ws_N cI r rr ra th Sr (off, nm, ng, now, F, R) ++ ((q, .inl (cJ, 1, .inr (.inl f1))) :: ws_C cM cG o am ag pm pg (off, nm, ng, now, F, R))) H1 := wk_sw (wa := ((q, .inl (cJ, 1, .inr (.inl f1))) :: ws_C cM cG o am ag pm pg (off, nm, ng, now, F, R))) hP
                            have hDa : va_D A (ws_N cI r rr ra th Sr (off, nm, ng, now, F, R) ++ ((q, .inl (cJ, 1, .inr (.inl f1))) :: ws_C cM cG o am ag pm pg (off, nm, ng, now, F, R))) := wk_swD (wa := ((q, .inl (cJ, 1, .inr (.inl f1))) :: ws_C cM cG o am ag pm pg (off, nm, ng, now, F, R))) hD
                            have hF9 := wk_F (wk_LD hDa) hS hA
                            refine cm_Vi (n := 2) [.int (xs (i + 1)), .int (xs (i + 2))] hC (t_N_message l D cM cG cI cJ r rr ra th Sr off nm ng now F R _ (xs (i + 1)) (xs (i + 2)) t9 hI hSr) ⟨kc_N_message, kn_N, k_L_103, ki_N_message, kv_N_message⟩ (by decide +kernel) ⟨rfl, rfl, Nat.le_of_ble_eq_true rfl, Nat.le_of_ble_eq_true rfl⟩ x_0 (yt_Y D cM cG cI cJ) hY trivial (va_recv hK (wk_L hPa) (ci := 3) (q0 := 0) rfl rfl) (wk_L hPa) (wk_T (wk_LD hDa)) hS hF9 rfl hl.1 rfl (Nat.le_of_ble_eq_true rfl) d_L_law_819 ⟨by show 25 + 200 * j + 1 + 0 ≤ room_1.cells; have := rs_c; omega, by show 3432 + 1400 * j + 6 + 0 ≤ room_1.slots; have := rs_s; omega⟩ (fun v1 u1 H2 locs2 hv9 hP1 hD1 hz9 hk9 hS1 => ?_)
                            obtain ⟨hP2, hD2⟩ := jn_L hPa hDa hk9 hF9 hP1 hD1
                            replace hP2 := wk_sw hP2
                            replace hD2 := wk_swD hD2
                            have hP : va_P D cl_L ((q, .inl (cJ, 1, .inr (.inl f1))) :: (ws_C cM cG o am ag pm pg (off, nm, ng, now, F, R) ++ ws_N cI r rr ra ((sp_me (off, nm, ng, now, F, R) (xs (i + 1)) (xs (i + 2))).1) Sr (off, nm, ng, now, F, R))) H2 := hP2
                            have hD : va_D A ((q, .inl (cJ, 1, .inr (.inl f1))) :: (ws_C cM cG o am ag pm pg (off, nm, ng, now, F, R) ++ ws_N cI r rr ra ((sp_me (off, nm, ng, now, F, R) (xs (i + 1)) (xs (i + 2))).1) Sr (off, nm, ng, now, F, R))) := hD2
                            have hS := hS1
                            clear hPa hDa hF9 hP1 hD1 hP2 hD2 hS1 hk9 hz9
                            obtain ⟨th1, hth1⟩ : ∃ th1 : Int32, th1 = (sp_me (off, nm, ng, now, F, R) (xs (i + 1)) (xs (i + 2))).1 := ⟨_, rfl⟩
                            have hr1 : r1 = th1 := hw9.1.trans hth1.symm
                            have hv1 : th1 = 0 → f1 0 = v1.toInt64 := fun z => by rw [hv9 (hth1.symm.trans z)]; exact hw9.2 (hth1.symm.trans z)
                            rw [← hth1] at hP hD
                            refine lv_istore (lv' := [(6, .int v1), (5, .int r1), (0, .ref b), (1, .ref o), (2, .ref r), (3, .ref q), (4, .int (nI i))]) hx hb d_L_law_822 hl (by decide) rfl (fun ls hl => ?_)
                            refine lv_aload_n hx hb d_L_law_824 rfl (lv_at hl 4 rfl) ?_
                            have hPa : va_P D cl_L (ws_N cI r rr ra th1 Sr (off, nm, ng, now, F, R) ++ ((q, .inl (cJ, 1, .inr (.inl f1))) :: ws_C cM cG o am ag pm pg (off, nm, ng, now, F, R))) H2 := wk_sw (wa := ((q, .inl (cJ, 1, .inr (.inl f1))) :: ws_C cM cG o am ag pm pg (off, nm, ng, now, F, R))) hP
                            have hDa : va_D A (ws_N cI r rr ra th1 Sr (off, nm, ng, now, F, R) ++ ((q, .inl (cJ, 1, .inr (.inl f1))) :: ws_C cM cG o am ag pm pg (off, nm, ng, now, F, R))) := wk_swD (wa := ((q, .inl (cJ, 1, .inr (.inl f1))) :: ws_C cM cG o am ag pm pg (off, nm, ng, now, F, R))) hD
                            have hF9 := wk_F (wk_LD hDa) hS hA
                            refine cp_V (n := 0) [] hC (t_N_thrown l D cM cG cI cJ r rr ra th1 Sr off nm ng now F R) ⟨kc_N_thrown, kn_N, k_L_65, ki_N_thrown, kv_N_thrown⟩ (by decide +kernel) ⟨rfl, rfl, Nat.le_of_ble_eq_true rfl, Nat.le_of_ble_eq_true rfl⟩ x_0 (yt_Y D cM cG cI cJ) hY (wk_L hPa) (va_recv hK (wk_L hPa) (ci := 3) (q0 := 0) rfl rfl) rfl hl.1 rfl (Nat.le_of_ble_eq_true rfl) d_L_law_825 ⟨by show 25 + 200 * j + 1 + 0 + 0 ≤ room_1.cells; have := rs_c; omega, by show 3432 + 1400 * j + 6 + 0 + 0 ≤ room_1.slots; have := rs_s; omega⟩ (fun r2 h2 => ?_)
                            rw [h2]
                            clear hPa hDa hF9 h2
                            refine lv_iload hx hb d_L_law_828 (lv_at hl 1 rfl) ?_
                            refine lv_icmp_eq (tgt := 835) hx hb d_L_law_830 (by decide) (fun _ => ?_) (fun c41 => absurd hr1.symm c41)
                            refine lv_iload hx hb d_L_law_835 (lv_at hl 1 rfl) ?_
                            refine lv_if_ne (tgt := 852) hx hb d_L_law_837 (by decide) (fun c42 => ?_) (fun c42 => ?_)
                            · refine lv_goto (tgt := 880) hx hb d_L_law_852 (by decide) ?_
                              refine lv_iinc (v := nI (i + 7)) (lv' := [(4, .int (nI (i + 7))), (6, .int v1), (5, .int r1), (0, .ref b), (1, .ref o), (2, .ref r), (3, .ref q)]) hx hb d_L_law_880 hl (k := 6) rfl (nI_add i 7) (by decide) rfl (fun ls hl => ?_)
                              refine lv_goto (tgt := 33) hx hb d_L_law_883 (by decide) ?_
                              refine W.widen (k := 25 + 200 * (j + 1)) (n := 3432 + 1400 * (j + 1)) (by omega) (by omega) ?_
                              exact ih (i + 7) (j + 1) t9 off nm ng now F R pm pg th1 Sr f1 _ _ _ (by omega) (by omega) (by omega) hI hSr hP hD hS (lv_sub hl [3, 4, 5, 6, 0] rfl)
                            · refine lv_aload_n hx hb d_L_law_840 rfl (lv_at hl 5 rfl) ?_
                              refine lv_iconst (v := 0) hx hb d_L_law_841 (by decide) ?_
                              refine va_lald hx hb hK hP 0 3 rfl rfl vi_01 d_L_law_842 ?_
                              refine lv_iload hx hb d_L_law_843 (lv_at hl 0 rfl) ?_
                              refine lv_i2l (v := v1.toInt64) hx hb d_L_law_845 rfl ?_
                              refine W.lcmp hx hb d_L_law_846 ?_
                              refine lv_if_eq (tgt := 852) hx hb d_L_law_847 (by decide) (fun _ => ?_) (fun c43 => absurd ((lg_cmp_eq _ _).mpr (hv1 (hr1.symm.trans c42))) c43)
                              refine lv_goto (tgt := 880) hx hb d_L_law_852 (by decide) ?_
                              refine lv_iinc (v := nI (i + 7)) (lv' := [(4, .int (nI (i + 7))), (6, .int v1), (5, .int r1), (0, .ref b), (1, .ref o), (2, .ref r), (3, .ref q)]) hx hb d_L_law_880 hl (k := 6) rfl (nI_add i 7) (by decide) rfl (fun ls hl => ?_)
                              refine lv_goto (tgt := 33) hx hb d_L_law_883 (by decide) ?_
                              refine W.widen (k := 25 + 200 * (j + 1)) (n := 3432 + 1400 * (j + 1)) (by omega) (by omega) ?_
                              exact ih (i + 7) (j + 1) t9 off nm ng now F R pm pg th1 Sr f1 _ _ _ (by omega) (by omega) (by omega) hI hSr hP hD hS (lv_sub hl [3, 4, 5, 6, 0] rfl)
                          · by_cases e44 : ((xs i) &&& 15) = 11
                            · refine sk_as e44 ?_
                              refine lv_tableIn (off := 805) (tgt := 855) hx hb d_L_law_50 (by decide) (by decide) rfl (by decide) ?_
                              refine lv_aload_n hx hb d_L_law_855 rfl (lv_at hl 1 rfl) ?_
                              refine lv_aload_n hx hb d_L_law_856 rfl (lv_at hl 0 rfl) ?_
                              refine lv_iload hx hb d_L_law_857 (lv_at hl 4 rfl) ?_
                              refine lv_iconst (v := 1) hx hb d_L_law_859 (by decide) ?_
                              refine lv_iadd hx hb d_L_law_860 ?_
                              refine sk_as (y := nI (i + 1)) (nI_add (i) 1) ?_
                              refine lw_ld hx hb hX hbl hbA hS (show i + 1 < L by omega) hL d_L_law_861 ?_
                              have hPa : va_P D cl_L (ws_C cM cG o am ag pm pg (off, nm, ng, now, F, R) ++ (ws_N cI r rr ra th Sr (off, nm, ng, now, F, R) ++ [(q, .inl (cJ, 1, .inr (.inl f)))])) H := by rw [← List.append_assoc]; exact wk_sw (wa := [(q, .inl (cJ, 1, .inr (.inl f)))]) hP
                              have hDa : va_D A (ws_C cM cG o am ag pm pg (off, nm, ng, now, F, R) ++ (ws_N cI r rr ra th Sr (off, nm, ng, now, F, R) ++ [(q, .inl (cJ, 1, .inr (.inl f)))])) := by rw [← List.append_assoc]; exact wk_swD (wa := [(q, .inl (cJ, 1, .inr (.inl f)))]) hD
                              have hF9 := wk_F (wk_LD hDa) hS hA
                              refine cp_V (n := 1) [.int (xs (i + 1))] hC (t_T_count l D cM cG cI cJ o am ag pm pg off nm ng now F R (xs (i + 1)) hn20 hg200) ⟨kc_T_count, kn_T, k_L_104, ki_T_count, kv_T_count⟩ (by decide +kernel) ⟨rfl, rfl, Nat.le_of_ble_eq_true rfl, Nat.le_of_ble_eq_true rfl⟩ x_0 (yt_Y D cM cG cI cJ) hY (wk_L hPa) (va_recv hK (wk_L hPa) (ci := 0) (q0 := 0) rfl rfl) rfl hl.1 rfl (Nat.le_of_ble_eq_true rfl) d_L_law_862 ⟨by show 25 + 200 * j + 0 ≤ room_1.cells; have := rs_c; omega, by show 3432 + 1400 * j + 0 ≤ room_1.slots; have := rs_s; omega⟩ (fun r1 hw9 => ?_)
                              clear hPa hDa hF9
                              refine lv_aload_n hx hb d_L_law_865 rfl (lv_at hl 2 rfl) ?_
                              refine lv_aload_n hx hb d_L_law_866 rfl (lv_at hl 0 rfl) ?_
                              refine lv_iload hx hb d_L_law_867 (lv_at hl 4 rfl) ?_
                              refine lv_iconst (v := 1) hx hb d_L_law_869 (by decide) ?_
                              refine lv_iadd hx hb d_L_law_870 ?_
                              refine sk_as (y := nI (i + 1)) (nI_add (i) 1) ?_
                              refine lw_ld hx hb hX hbl hbA hS (show i + 1 < L by omega) hL d_L_law_871 ?_
                              have hPa : va_P D cl_L (ws_N cI r rr ra th Sr (off, nm, ng, now, F, R) ++ ((q, .inl (cJ, 1, .inr (.inl f))) :: ws_C cM cG o am ag pm pg (off, nm, ng, now, F, R))) H := wk_sw (wa := ((q, .inl (cJ, 1, .inr (.inl f))) :: ws_C cM cG o am ag pm pg (off, nm, ng, now, F, R))) hP
                              have hDa : va_D A (ws_N cI r rr ra th Sr (off, nm, ng, now, F, R) ++ ((q, .inl (cJ, 1, .inr (.inl f))) :: ws_C cM cG o am ag pm pg (off, nm, ng, now, F, R))) := wk_swD (wa := ((q, .inl (cJ, 1, .inr (.inl f))) :: ws_C cM cG o am ag pm pg (off, nm, ng, now, F, R))) hD
                              have hF9 := wk_F (wk_LD hDa) hS hA
                              refine cm_Vi (n := 1) [.int (xs (i + 1))] hC (t_N_count l D cM cG cI cJ r rr ra th Sr off nm ng now F R _ (xs (i + 1)) t9 hI hSr) ⟨kc_N_count, kn_N, k_L_107, ki_N_count, kv_N_count⟩ (by decide +kernel) ⟨rfl, rfl, Nat.le_of_ble_eq_true rfl, Nat.le_of_ble_eq_true rfl⟩ x_0 (yt_Y D cM cG cI cJ) hY trivial (va_recv hK (wk_L hPa) (ci := 3) (q0 := 0) rfl rfl) (wk_L hPa) (wk_T (wk_LD hDa)) hS hF9 rfl hl.1 rfl (Nat.le_of_ble_eq_true rfl) d_L_law_872 ⟨by show 25 + 200 * j + 0 ≤ room_1.cells; have := rs_c; omega, by show 3432 + 1400 * j + 0 ≤ room_1.slots; have := rs_s; omega⟩ (fun v1 u1 H2 locs2 hv9 hP1 hD1 hz9 hk9 hS1 => ?_)
                              obtain ⟨hP2, hD2⟩ := jn_L hPa hDa hk9 hF9 hP1 hD1
                              replace hP2 := wk_sw hP2
                              replace hD2 := wk_swD hD2
                              have hP : va_P D cl_L ((q, .inl (cJ, 1, .inr (.inl f))) :: (ws_C cM cG o am ag pm pg (off, nm, ng, now, F, R) ++ ws_N cI r rr ra 0 Sr (off, nm, ng, now, F, R))) H2 := hP2
                              have hD : va_D A ((q, .inl (cJ, 1, .inr (.inl f))) :: (ws_C cM cG o am ag pm pg (off, nm, ng, now, F, R) ++ ws_N cI r rr ra 0 Sr (off, nm, ng, now, F, R))) := hD2
                              have hS := hS1
                              clear hPa hDa hF9 hP1 hD1 hP2 hD2 hS1 hk9 hz9
                              refine lv_icmp_eq (tgt := 880) hx hb d_L_law_875 (by decide) (fun _ => ?_) (fun c45 => absurd (hw9.trans hv9.symm) c45)
                              refine lv_iinc (v := nI (i + 7)) (lv' := [(4, .int (nI (i + 7))), (0, .ref b), (1, .ref o), (2, .ref r), (3, .ref q)]) hx hb d_L_law_880 hl (k := 4) rfl (nI_add i 7) (by decide) rfl (fun ls hl => ?_)
                              refine lv_goto (tgt := 33) hx hb d_L_law_883 (by decide) ?_
                              refine W.widen (k := 25 + 200 * (j + 1)) (n := 3432 + 1400 * (j + 1)) (by omega) (by omega) ?_
                              exact ih (i + 7) (j + 1) t9 off nm ng now F R pm pg 0 Sr f _ _ _ (by omega) (by omega) (by omega) hI hSr hP hD hS (lv_sub hl [1, 2, 3, 4, 0] rfl)
                            · refine lv_tableOut (tgt := 880) hx hb d_L_law_50 (by have := ne_I (n := 0) e2; have := ne_I (n := 1) e6; have := ne_I (n := 2) e10; have := ne_I (n := 3) e14; have := ne_I (n := 4) e18; have := ne_I (n := 5) e20; have := ne_I (n := 6) e24; have := ne_I (n := 7) e28; have := ne_I (n := 8) e32; have := ne_I (n := 9) e36; have := ne_I (n := 10) e40; have := ne_I (n := 11) e44; omega) (by decide) ?_
                              refine lv_iinc (v := nI (i + 7)) (lv' := [(4, .int (nI (i + 7))), (0, .ref b), (1, .ref o), (2, .ref r), (3, .ref q)]) hx hb d_L_law_880 hl (k := 4) rfl (nI_add i 7) (by decide) rfl (fun ls hl => ?_)
                              refine lv_goto (tgt := 33) hx hb d_L_law_883 (by decide) ?_
                              refine W.widen (k := 25 + 200 * (j + 1)) (n := 3432 + 1400 * (j + 1)) (by omega) (by omega) ?_
                              exact ih (i + 7) (j + 1) t9 off nm ng now F R pm pg th Sr f _ _ _ (by omega) (by omega) (by omega) hI hSr hP hD hS (lv_sub hl [1, 2, 3, 4, 0] rfl)
