theorem ac_6 {off now : Int32} {nm ng : Nat} {F : Nat → Nat → Int32} {R : Nat → Int32} {g : Nat} {S : Nat → Int32} (h : sr_P S (off, nm, ng, now, F, R)) : sr_P S (ac_S (off, nm, ng, now, F, R) g) := by
  have l1 : ∀ (G : Nat → Nat → Int32) (i : Nat) (a b : Int32) (j : Nat), la_F G i a b 6 j = G 6 j ∧ la_F G i a b 7 j = G 7 j := by
    intro G i a b j
    unfold la_F
    split <;> exact ⟨rfl, rfl⟩
  have l2 : ∀ (G : Nat → Nat → Int32) (i : Nat) (a b : Int32) (j : Nat), lr_F G i a b 6 j = G 6 j ∧ lr_F G i a b 7 j = G 7 j := by
    intro G i a b j
    unfold lr_F
    split <;> exact ⟨rfl, rfl⟩
  simp only [ac_S]
  split
  · exact h
  · split
    · intro j hj h6
      rw [(l1 F _ _ _ j).2]
      exact h j hj (by rw [← (l1 F _ _ _ j).1]; exact h6)
    · split
      · intro j hj h6
        rw [(l2 F _ _ _ j).2]
        exact h j hj (by rw [← (l2 F _ _ _ j).1]; exact h6)
      · split
        · exact h
        · split
          · exact h
          · exact h
theorem sr_ar {off now off2 now2 : Int32} {nm ng ng2 : Nat} {F : Nat → Nat → Int32} {R R2 : Nat → Int32} {i : Nat} {S : Nat → Int32} {y z q : Int32} (h : sr_P S (off, nm, ng, now, F, R)) : sr_P (upd S i z) (off2, nm, ng2, now2, up_F (up_F (up_F F 6 i y) 7 i z) 8 i q, R2) := by
  intro j hj h6
  by_cases hji : j = i
  · subst hji
    simp [upd, up_at]
  · rw [upd_n hji, up_ni hji, up_ni hji, up_ni hji]
    rw [up_ni hji, up_ni hji, up_ni hji] at h6
    exact h j hj h6
set_option maxHeartbeats 4000000 in
set_option maxRecDepth 100000 in
theorem t_N_read (l : Launch) (D : va_G) (cM cG cI cJ : ClassId) (r rr : Nat) (ra : Nat → Nat) (th : Int32) (Sr : Nat → Int32) (off : Int32) (nm ng : Nat) (now : Int32) (F : Nat → Nat → Int32) (R : Nat → Int32) (sz : Nat) (g i : Nat) (hgn : g < ng) (hg : ng < 400) (hi : i < 20) (hxi : R (7 * g + 1) = nI i) (hst : 1 ≤ (F 10 i).toInt ∧ (F 10 i).toInt ≤ 6) (h9 : -1 ≤ (F 9 i).toInt) (h1 : 0 ≤ (F 1 i).toInt) (hSr : ¬ F 6 i = -1 → Sr i = F 7 i) : Met l y_N_read (Cond.code y_N_read c_N_read 4 none :: tw_L) ({ frames := 2, cells := 0, slots := 0, locals := 48 } : Room) (mu_P D (ws_N cI r rr ra th Sr (off, nm, ng, now, F, R)) sz (fun _ _ => True) (yt_P D cM cG cI cJ) [.ref r, .int (nI (7 * g))]) (va_Qv (fun _ : Unit => True) (mu_B D (ws_N cI r rr ra th Sr (off, nm, ng, now, F, R)) sz (fun _ => ws_N cI r rr ra th Sr (ac_S (off, nm, ng, now, F, R) g))) (va_A (ws_N cI r rr ra th Sr (off, nm, ng, now, F, R)) sz)) 0 0 (va_A (ws_N cI r rr ra th Sr (off, nm, ng, now, F, R)) sz) := by
  refine Met.ofW (cc := c_N_read) (maxL := 4) (ret := none) (by decide) rfl ?_
  intro p e s m args below meth c s₁ B hml hv
  obtain ⟨rfl, hsz, hP, hD0, hX, hY⟩ := hv
  have hx := B.exec
  have hb := B.bytes
  have hr := B.returns
  have htw : ∀ w ∈ tw_L, w.before _ s = true := fun w hw => atoms_spec (ws := (Cond.code y_N_read c_N_read 4 none :: tw_L)) B.pre w (List.mem_cons_of_mem _ hw)
  have hown : s.vm.findClass R_N = some m.cls := findClass_of_methodNamed B.named
  have hlocks := B.notSynchronized
  have hC : CallFix p m c c_N_read 4 s _ tw_L R_N := ⟨hx, hb, hml, hown, htw⟩
  have hK := hY.1
  have hl := lv_entry ([.ref r, .int (nI (7 * g))]) (n := 4) (Nat.le_of_ble_eq_true rfl)
  rw [lg_entry_eq]
  generalize (lg_sl ([.ref r, .int (nI (7 * g))]) ++ List.replicate (4 - (lg_sl ([.ref r, .int (nI (7 * g))])).length) Slot.unset).toArray = ls at hl ⊢
  have hl : lv_has ls 4 [(0, .ref r), (1, .int (nI (7 * g)))] := hl
  subst hsz
  obtain ⟨A, hAe⟩ : ∃ A : Nat → Prop, A = va_A (ws_N cI r rr ra th Sr (off, nm, ng, now, F, R)) s.heap.size := ⟨_, rfl⟩
  have hD : va_D A (ws_N cI r rr ra th Sr (off, nm, ng, now, F, R)) := by rw [hAe]; exact hD0.self
  have hA : ∀ q : Nat, s.heap.size ≤ q → A q := fun q h => by rw [hAe]; exact Or.inr h
  have hS : va_S A s.heap s.heap [] := va_S.rf
  have hcl : (nI i).toNatClampNeg = i := nI_clamp (by omega)
  refine lv_aload_n hx hb d_N_read_0 rfl (lv_at hl 0 rfl) ?_
  refine va_get (D := D) (C := R_N) (T := F_N) (N := 25) hx hb htw uw_N hown hK hP 0 rfl rfl 24 (by decide) (htw _ k_N_67) (fun _ h9 => h9) rfl d_N_read_1 ?_
  refine lv_iload_n hx hb d_N_read_4 rfl (lv_at hl 1 rfl) ?_
  refine lv_iconst (v := 1) hx hb d_N_read_5 (by decide) ?_
  refine lv_iadd hx hb d_N_read_6 ?_
  refine sk_as (y := nI (7 * g + 1)) (nI_add (7 * g) 1) ?_
  refine ar_ld hx hb hK hP 1 2 rfl rfl (show 7 * g + 1 < 2800 by omega) (by decide) d_N_read_7 ?_
  refine sk_as hxi ?_
  refine lv_istore_n (lv' := [(2, .int (nI i)), (0, .ref r), (1, .int (nI (7 * g)))]) hx hb d_N_read_8 rfl hl (by decide) rfl (fun ls hl => ?_)
  by_cases e1 : R (7 * g) = 1
  · refine lv_aload_n hx hb d_N_read_9 rfl (lv_at hl 1 rfl) ?_
    refine va_get (D := D) (C := R_N) (T := F_N) (N := 25) hx hb htw uw_N hown hK hP 0 rfl rfl 24 (by decide) (htw _ k_N_67) (fun _ h9 => h9) rfl d_N_read_10 ?_
    refine lv_iload_n hx hb d_N_read_13 rfl (lv_at hl 2 rfl) ?_
    refine ar_ld hx hb hK hP 1 2 rfl rfl (show 7 * g < 2800 by omega) (by decide) d_N_read_14 ?_
    refine lv_iconst (v := 1) hx hb d_N_read_15 (by decide) ?_
    refine lv_icmp_ne (tgt := 26) hx hb d_N_read_16 (by decide) (fun c1 => absurd e1 c1) (fun _ => ?_)
    refine lv_aload_n hx hb d_N_read_19 rfl (lv_at hl 1 rfl) ?_
    refine va_get (D := D) (C := R_N) (T := F_N) (N := 25) hx hb htw uw_N hown hK hP 0 rfl rfl 22 (by decide) (htw _ k_N_61) (fun _ h9 => h9) rfl d_N_read_20 ?_
    refine lv_iload_n hx hb d_N_read_23 rfl (lv_at hl 0 rfl) ?_
    refine lv_iconst (v := 1) hx hb d_N_read_24 (by decide) ?_
    refine ar_st hx hb hK hP hD hS 19 2 rfl rfl hi (by decide) d_N_read_25 (fun H locs hP hD hS => ?_)
    have hP : va_P D cl_L (ws_N cI r rr ra th Sr (off, nm, ng, now, up_F F 17 i 1, R)) H := hP
    have hD : va_D A (ws_N cI r rr ra th Sr (off, nm, ng, now, up_F F 17 i 1, R)) := hD
    refine lv_aload_n hx hb d_N_read_26 rfl (lv_at hl 1 rfl) ?_
    refine va_get (D := D) (C := R_N) (T := F_N) (N := 25) hx hb htw uw_N hown hK hP 0 rfl rfl 24 (by decide) (htw _ k_N_67) (fun _ h9 => h9) rfl d_N_read_27 ?_
    refine lv_iload_n hx hb d_N_read_30 rfl (lv_at hl 2 rfl) ?_
    refine ar_ld hx hb hK hP 1 2 rfl rfl (show 7 * g < 2800 by omega) (by decide) d_N_read_31 ?_
    refine lv_bipush (v := 6) hx hb d_N_read_32 (by decide) ?_
    refine lv_icmp_ne (tgt := 44) hx hb d_N_read_34 (by decide) (fun _ => ?_) (fun c2 => absurd c2 (show ¬ R (7 * g) = 6 by rw [e1]; decide))
    refine lv_aload_n hx hb d_N_read_44 rfl (lv_at hl 1 rfl) ?_
    refine va_get (D := D) (C := R_N) (T := F_N) (N := 25) hx hb htw uw_N hown hK hP 0 rfl rfl 24 (by decide) (htw _ k_N_67) (fun _ h9 => h9) rfl d_N_read_45 ?_
    refine lv_iload_n hx hb d_N_read_48 rfl (lv_at hl 2 rfl) ?_
    refine ar_ld hx hb hK hP 1 2 rfl rfl (show 7 * g < 2800 by omega) (by decide) d_N_read_49 ?_
    refine lv_iconst (v := 2) hx hb d_N_read_50 (by decide) ?_
    refine lv_icmp_ne (tgt := 106) hx hb d_N_read_51 (by decide) (fun _ => ?_) (fun c3 => absurd c3 (show ¬ R (7 * g) = 2 by rw [e1]; decide))
    refine lv_aload_n hx hb d_N_read_106 rfl (lv_at hl 1 rfl) ?_
    refine va_get (D := D) (C := R_N) (T := F_N) (N := 25) hx hb htw uw_N hown hK hP 0 rfl rfl 24 (by decide) (htw _ k_N_67) (fun _ h9 => h9) rfl d_N_read_107 ?_
    refine lv_iload_n hx hb d_N_read_110 rfl (lv_at hl 2 rfl) ?_
    refine ar_ld hx hb hK hP 1 2 rfl rfl (show 7 * g < 2800 by omega) (by decide) d_N_read_111 ?_
    refine lv_iconst (v := 3) hx hb d_N_read_112 (by decide) ?_
    refine lv_icmp_ne (tgt := 137) hx hb d_N_read_113 (by decide) (fun _ => ?_) (fun c4 => absurd c4 (show ¬ R (7 * g) = 3 by rw [e1]; decide))
    refine lv_aload_n hx hb d_N_read_137 rfl (lv_at hl 1 rfl) ?_
    refine va_get (D := D) (C := R_N) (T := F_N) (N := 25) hx hb htw uw_N hown hK hP 0 rfl rfl 24 (by decide) (htw _ k_N_67) (fun _ h9 => h9) rfl d_N_read_138 ?_
    refine lv_iload_n hx hb d_N_read_141 rfl (lv_at hl 2 rfl) ?_
    refine ar_ld hx hb hK hP 1 2 rfl rfl (show 7 * g < 2800 by omega) (by decide) d_N_read_142 ?_
    refine lv_iconst (v := 4) hx hb d_N_read_143 (by decide) ?_
    refine lv_icmp_ne (tgt := 231) hx hb d_N_read_144 (by decide) (fun _ => ?_) (fun c5 => absurd c5 (show ¬ R (7 * g) = 4 by rw [e1]; decide))
    subst hAe
    have e_S : ac_S (off, nm, ng, now, F, R) g = (off, nm, ng, now, up_F F 17 i 1, R) := by simp only [ac_S, if_pos e1, hxi, hcl]
    exact W.vret hx hb hr (fun t ht hW => ⟨⟨(), rfl, trivial, by rw [ht, e_S]; exact hP, by rw [e_S]; exact hD⟩, hS.F ht⟩) hS.2.2 d_N_read_231
  · by_cases e2 : R (7 * g) = 2
    · refine lv_aload_n hx hb d_N_read_9 rfl (lv_at hl 1 rfl) ?_
      refine va_get (D := D) (C := R_N) (T := F_N) (N := 25) hx hb htw uw_N hown hK hP 0 rfl rfl 24 (by decide) (htw _ k_N_67) (fun _ h9 => h9) rfl d_N_read_10 ?_
      refine lv_iload_n hx hb d_N_read_13 rfl (lv_at hl 2 rfl) ?_
      refine ar_ld hx hb hK hP 1 2 rfl rfl (show 7 * g < 2800 by omega) (by decide) d_N_read_14 ?_
      refine lv_iconst (v := 1) hx hb d_N_read_15 (by decide) ?_
      refine lv_icmp_ne (tgt := 26) hx hb d_N_read_16 (by decide) (fun _ => ?_) (fun c6 => absurd c6 (show ¬ R (7 * g) = 1 by rw [e2]; decide))
      refine lv_aload_n hx hb d_N_read_26 rfl (lv_at hl 1 rfl) ?_
      refine va_get (D := D) (C := R_N) (T := F_N) (N := 25) hx hb htw uw_N hown hK hP 0 rfl rfl 24 (by decide) (htw _ k_N_67) (fun _ h9 => h9) rfl d_N_read_27 ?_
      refine lv_iload_n hx hb d_N_read_30 rfl (lv_at hl 2 rfl) ?_
      refine ar_ld hx hb hK hP 1 2 rfl rfl (show 7 * g < 2800 by omega) (by decide) d_N_read_31 ?_
      refine lv_bipush (v := 6) hx hb d_N_read_32 (by decide) ?_
      refine lv_icmp_ne (tgt := 44) hx hb d_N_read_34 (by decide) (fun _ => ?_) (fun c7 => absurd c7 (show ¬ R (7 * g) = 6 by rw [e2]; decide))
      refine lv_aload_n hx hb d_N_read_44 rfl (lv_at hl 1 rfl) ?_
      refine va_get (D := D) (C := R_N) (T := F_N) (N := 25) hx hb htw uw_N hown hK hP 0 rfl rfl 24 (by decide) (htw _ k_N_67) (fun _ h9 => h9) rfl d_N_read_45 ?_
      refine lv_iload_n hx hb d_N_read_48 rfl (lv_at hl 2 rfl) ?_
      refine ar_ld hx hb hK hP 1 2 rfl rfl (show 7 * g < 2800 by omega) (by decide) d_N_read_49 ?_
      refine lv_iconst (v := 2) hx hb d_N_read_50 (by decide) ?_
      refine lv_icmp_ne (tgt := 106) hx hb d_N_read_51 (by decide) (fun c8 => absurd e2 c8) (fun _ => ?_)
      refine lv_aload_n hx hb d_N_read_54 rfl (lv_at hl 1 rfl) ?_
      refine va_get (D := D) (C := R_N) (T := F_N) (N := 25) hx hb htw uw_N hown hK hP 0 rfl rfl 19 (by decide) (htw _ k_N_52) (fun _ h9 => h9) rfl d_N_read_55 ?_
      refine lv_iload_n hx hb d_N_read_58 rfl (lv_at hl 0 rfl) ?_
      refine lv_aload_n hx hb d_N_read_59 rfl (lv_at hl 1 rfl) ?_
      refine va_get (D := D) (C := R_N) (T := F_N) (N := 25) hx hb htw uw_N hown hK hP 0 rfl rfl 24 (by decide) (htw _ k_N_67) (fun _ h9 => h9) rfl d_N_read_60 ?_
      refine lv_iload_n hx hb d_N_read_63 rfl (lv_at hl 2 rfl) ?_
      refine lv_iconst (v := 4) hx hb d_N_read_64 (by decide) ?_
      refine lv_iadd hx hb d_N_read_65 ?_
      refine sk_as (y := nI (7 * g + 4)) (nI_add (7 * g) 4) ?_
      refine ar_ld hx hb hK hP 1 2 rfl rfl (show 7 * g + 4 < 2800 by omega) (by decide) d_N_read_66 ?_
      refine ar_st hx hb hK hP hD hS 16 2 rfl rfl hi (by decide) d_N_read_67 (fun H locs hP hD hS => ?_)
      have hP : va_P D cl_L (ws_N cI r rr ra th Sr (off, nm, ng, now, up_F F 14 i (R (7 * g + 4)), R)) H := hP
      have hD : va_D A (ws_N cI r rr ra th Sr (off, nm, ng, now, up_F F 14 i (R (7 * g + 4)), R)) := hD
      refine lv_aload_n hx hb d_N_read_68 rfl (lv_at hl 1 rfl) ?_
      refine va_get (D := D) (C := R_N) (T := F_N) (N := 25) hx hb htw uw_N hown hK hP 0 rfl rfl 20 (by decide) (htw _ k_N_55) (fun _ h9 => h9) rfl d_N_read_69 ?_
      refine lv_iload_n hx hb d_N_read_72 rfl (lv_at hl 0 rfl) ?_
      refine lv_aload_n hx hb d_N_read_73 rfl (lv_at hl 1 rfl) ?_
      refine va_get (D := D) (C := R_N) (T := F_N) (N := 25) hx hb htw uw_N hown hK hP 0 rfl rfl 24 (by decide) (htw _ k_N_67) (fun _ h9 => h9) rfl d_N_read_74 ?_
      refine lv_iload_n hx hb d_N_read_77 rfl (lv_at hl 2 rfl) ?_
      refine lv_iconst (v := 5) hx hb d_N_read_78 (by decide) ?_
      refine lv_iadd hx hb d_N_read_79 ?_
      refine sk_as (y := nI (7 * g + 5)) (nI_add (7 * g) 5) ?_
      refine ar_ld hx hb hK hP 1 2 rfl rfl (show 7 * g + 5 < 2800 by omega) (by decide) d_N_read_80 ?_
      refine ar_st hx hb hK hP hD hS 17 2 rfl rfl hi (by decide) d_N_read_81 (fun H locs hP hD hS => ?_)
      have hP : va_P D cl_L (ws_N cI r rr ra th Sr (off, nm, ng, now, up_F (up_F F 14 i (R (7 * g + 4))) 15 i (R (7 * g + 5)), R)) H := hP
      have hD : va_D A (ws_N cI r rr ra th Sr (off, nm, ng, now, up_F (up_F F 14 i (R (7 * g + 4))) 15 i (R (7 * g + 5)), R)) := hD
      refine lv_aload_n hx hb d_N_read_82 rfl (lv_at hl 1 rfl) ?_
      refine va_get (D := D) (C := R_N) (T := F_N) (N := 25) hx hb htw uw_N hown hK hP 0 rfl rfl 15 (by decide) (htw _ k_N_40) (fun _ h9 => h9) rfl d_N_read_83 ?_
      refine lv_iload_n hx hb d_N_read_86 rfl (lv_at hl 0 rfl) ?_
      refine lv_aload_n hx hb d_N_read_87 rfl (lv_at hl 1 rfl) ?_
      refine lv_iload_n hx hb d_N_read_88 rfl (lv_at hl 0 rfl) ?_
      refine cp_V (n := 1) [.int (nI i)] hC (t_N_isWaiting l D cM cG cI cJ r rr ra th Sr off nm ng now (up_F (up_F F 14 i (R (7 * g + 4))) 15 i (R (7 * g + 5))) R i hi) ⟨kc_N_isWaiting, kn_N, k_N_110, ki_N_isWaiting, kv_N_isWaiting⟩ (by decide +kernel) ⟨rfl, rfl, Nat.le_of_ble_eq_true rfl, Nat.le_of_ble_eq_true rfl⟩ x_0 (yt_Y D cM cG cI cJ) hY hP (va_recv hK hP (ci := 3) (q0 := 0) rfl rfl) rfl hl.1 rfl (Nat.le_of_ble_eq_true rfl) d_N_read_89 ⟨Nat.le_of_ble_eq_true rfl, Nat.le_of_ble_eq_true rfl⟩ (fun r9 h10 => ?_)
      rcases h10 with ⟨rfl, b11⟩ | ⟨rfl, b11⟩
      · have b11 : is_aw (F 10 i) := b11
        refine lv_if_eq (tgt := 99) hx hb d_N_read_92 (by decide) (fun q9 => absurd q9 (by decide)) (fun _ => ?_)
        refine lv_iconst (v := 2) hx hb d_N_read_95 (by decide) ?_
        refine lv_goto (tgt := 105) hx hb d_N_read_96 (by decide) ?_
        refine ar_st hx hb hK hP hD hS 12 2 rfl rfl hi (by decide) d_N_read_105 (fun H locs hP hD hS => ?_)
        have hP : va_P D cl_L (ws_N cI r rr ra th Sr (off, nm, ng, now, up_F (up_F (up_F F 14 i (R (7 * g + 4))) 15 i (R (7 * g + 5))) 10 i 2, R)) H := hP
        have hD : va_D A (ws_N cI r rr ra th Sr (off, nm, ng, now, up_F (up_F (up_F F 14 i (R (7 * g + 4))) 15 i (R (7 * g + 5))) 10 i 2, R)) := hD
        refine lv_aload_n hx hb d_N_read_106 rfl (lv_at hl 1 rfl) ?_
        refine va_get (D := D) (C := R_N) (T := F_N) (N := 25) hx hb htw uw_N hown hK hP 0 rfl rfl 24 (by decide) (htw _ k_N_67) (fun _ h9 => h9) rfl d_N_read_107 ?_
        refine lv_iload_n hx hb d_N_read_110 rfl (lv_at hl 2 rfl) ?_
        refine ar_ld hx hb hK hP 1 2 rfl rfl (show 7 * g < 2800 by omega) (by decide) d_N_read_111 ?_
        refine lv_iconst (v := 3) hx hb d_N_read_112 (by decide) ?_
        refine lv_icmp_ne (tgt := 137) hx hb d_N_read_113 (by decide) (fun _ => ?_) (fun c12 => absurd c12 (show ¬ R (7 * g) = 3 by rw [e2]; decide))
        refine lv_aload_n hx hb d_N_read_137 rfl (lv_at hl 1 rfl) ?_
        refine va_get (D := D) (C := R_N) (T := F_N) (N := 25) hx hb htw uw_N hown hK hP 0 rfl rfl 24 (by decide) (htw _ k_N_67) (fun _ h9 => h9) rfl d_N_read_138 ?_
        refine lv_iload_n hx hb d_N_read_141 rfl (lv_at hl 2 rfl) ?_
        refine ar_ld hx hb hK hP 1 2 rfl rfl (show 7 * g < 2800 by omega) (by decide) d_N_read_142 ?_
        refine lv_iconst (v := 4) hx hb d_N_read_143 (by decide) ?_
        refine lv_icmp_ne (tgt := 231) hx hb d_N_read_144 (by decide) (fun _ => ?_) (fun c13 => absurd c13 (show ¬ R (7 * g) = 4 by rw [e2]; decide))
        subst hAe
        have e_S : ac_S (off, nm, ng, now, F, R) g = (off, nm, ng, now, up_F (up_F (up_F F 14 i (R (7 * g + 4))) 15 i (R (7 * g + 5))) 10 i 2, R) := by simp only [ac_S, if_neg e1, if_pos e2, la_F, if_pos b11, hxi, hcl]
        exact W.vret hx hb hr (fun t ht hW => ⟨⟨(), rfl, trivial, by rw [ht, e_S]; exact hP, by rw [e_S]; exact hD⟩, hS.F ht⟩) hS.2.2 d_N_read_231
      · have b11 : ¬ is_aw (F 10 i) := b11
        refine lv_if_eq (tgt := 99) hx hb d_N_read_92 (by decide) (fun _ => ?_) (fun q9 => absurd rfl q9)
        refine lv_aload_n hx hb d_N_read_99 rfl (lv_at hl 1 rfl) ?_
        refine va_get (D := D) (C := R_N) (T := F_N) (N := 25) hx hb htw uw_N hown hK hP 0 rfl rfl 15 (by decide) (htw _ k_N_40) (fun _ h9 => h9) rfl d_N_read_100 ?_
        refine lv_iload_n hx hb d_N_read_103 rfl (lv_at hl 0 rfl) ?_
        refine ar_ld hx hb hK hP 12 2 rfl rfl hi (by decide) d_N_read_104 ?_
        refine ar_st hx hb hK hP hD hS 12 2 rfl rfl hi (by decide) d_N_read_105 (fun H locs hP hD hS => ?_)
        have hP : va_P D cl_L (ws_N cI r rr ra th Sr (off, nm, ng, now, up_F (up_F (up_F F 14 i (R (7 * g + 4))) 15 i (R (7 * g + 5))) 10 i (F 10 i), R)) H := hP
        have hD : va_D A (ws_N cI r rr ra th Sr (off, nm, ng, now, up_F (up_F (up_F F 14 i (R (7 * g + 4))) 15 i (R (7 * g + 5))) 10 i (F 10 i), R)) := hD
        refine lv_aload_n hx hb d_N_read_106 rfl (lv_at hl 1 rfl) ?_
        refine va_get (D := D) (C := R_N) (T := F_N) (N := 25) hx hb htw uw_N hown hK hP 0 rfl rfl 24 (by decide) (htw _ k_N_67) (fun _ h9 => h9) rfl d_N_read_107 ?_
        refine lv_iload_n hx hb d_N_read_110 rfl (lv_at hl 2 rfl) ?_
        refine ar_ld hx hb hK hP 1 2 rfl rfl (show 7 * g < 2800 by omega) (by decide) d_N_read_111 ?_
        refine lv_iconst (v := 3) hx hb d_N_read_112 (by decide) ?_
        refine lv_icmp_ne (tgt := 137) hx hb d_N_read_113 (by decide) (fun _ => ?_) (fun c14 => absurd c14 (show ¬ R (7 * g) = 3 by rw [e2]; decide))
        refine lv_aload_n hx hb d_N_read_137 rfl (lv_at hl 1 rfl) ?_
        refine va_get (D := D) (C := R_N) (T := F_N) (N := 25) hx hb htw uw_N hown hK hP 0 rfl rfl 24 (by decide) (htw _ k_N_67) (fun _ h9 => h9) rfl d_N_read_138 ?_
        refine lv_iload_n hx hb d_N_read_141 rfl (lv_at hl 2 rfl) ?_
        refine ar_ld hx hb hK hP 1 2 rfl rfl (show 7 * g < 2800 by omega) (by decide) d_N_read_142 ?_
        refine lv_iconst (v := 4) hx hb d_N_read_143 (by decide) ?_
        refine lv_icmp_ne (tgt := 231) hx hb d_N_read_144 (by decide) (fun _ => ?_) (fun c15 => absurd c15 (show ¬ R (7 * g) = 4 by rw [e2]; decide))
        subst hAe
        have e_S : ac_S (off, nm, ng, now, F, R) g = (off, nm, ng, now, up_F (up_F (up_F F 14 i (R (7 * g + 4))) 15 i (R (7 * g + 5))) 10 i (F 10 i), R) := by simp only [ac_S, if_neg e1, if_pos e2, la_F, if_neg b11, hxi, hcl]; rw [up_id (show (up_F (up_F F 14 i (R (7 * g + 4))) 15 i (R (7 * g + 5))) 10 i = F 10 i by simp [up_at])]
        exact W.vret hx hb hr (fun t ht hW => ⟨⟨(), rfl, trivial, by rw [ht, e_S]; exact hP, by rw [e_S]; exact hD⟩, hS.F ht⟩) hS.2.2 d_N_read_231
    · by_cases e3 : R (7 * g) = 3
      · refine lv_aload_n hx hb d_N_read_9 rfl (lv_at hl 1 rfl) ?_
        refine va_get (D := D) (C := R_N) (T := F_N) (N := 25) hx hb htw uw_N hown hK hP 0 rfl rfl 24 (by decide) (htw _ k_N_67) (fun _ h9 => h9) rfl d_N_read_10 ?_
        refine lv_iload_n hx hb d_N_read_13 rfl (lv_at hl 2 rfl) ?_
        refine ar_ld hx hb hK hP 1 2 rfl rfl (show 7 * g < 2800 by omega) (by decide) d_N_read_14 ?_
        refine lv_iconst (v := 1) hx hb d_N_read_15 (by decide) ?_
        refine lv_icmp_ne (tgt := 26) hx hb d_N_read_16 (by decide) (fun _ => ?_) (fun c16 => absurd c16 (show ¬ R (7 * g) = 1 by rw [e3]; decide))
        refine lv_aload_n hx hb d_N_read_26 rfl (lv_at hl 1 rfl) ?_
        refine va_get (D := D) (C := R_N) (T := F_N) (N := 25) hx hb htw uw_N hown hK hP 0 rfl rfl 24 (by decide) (htw _ k_N_67) (fun _ h9 => h9) rfl d_N_read_27 ?_
        refine lv_iload_n hx hb d_N_read_30 rfl (lv_at hl 2 rfl) ?_
        refine ar_ld hx hb hK hP 1 2 rfl rfl (show 7 * g < 2800 by omega) (by decide) d_N_read_31 ?_
        refine lv_bipush (v := 6) hx hb d_N_read_32 (by decide) ?_
        refine lv_icmp_ne (tgt := 44) hx hb d_N_read_34 (by decide) (fun _ => ?_) (fun c17 => absurd c17 (show ¬ R (7 * g) = 6 by rw [e3]; decide))
        refine lv_aload_n hx hb d_N_read_44 rfl (lv_at hl 1 rfl) ?_
        refine va_get (D := D) (C := R_N) (T := F_N) (N := 25) hx hb htw uw_N hown hK hP 0 rfl rfl 24 (by decide) (htw _ k_N_67) (fun _ h9 => h9) rfl d_N_read_45 ?_
        refine lv_iload_n hx hb d_N_read_48 rfl (lv_at hl 2 rfl) ?_
        refine ar_ld hx hb hK hP 1 2 rfl rfl (show 7 * g < 2800 by omega) (by decide) d_N_read_49 ?_
        refine lv_iconst (v := 2) hx hb d_N_read_50 (by decide) ?_
        refine lv_icmp_ne (tgt := 106) hx hb d_N_read_51 (by decide) (fun _ => ?_) (fun c18 => absurd c18 (show ¬ R (7 * g) = 2 by rw [e3]; decide))
        refine lv_aload_n hx hb d_N_read_106 rfl (lv_at hl 1 rfl) ?_
        refine va_get (D := D) (C := R_N) (T := F_N) (N := 25) hx hb htw uw_N hown hK hP 0 rfl rfl 24 (by decide) (htw _ k_N_67) (fun _ h9 => h9) rfl d_N_read_107 ?_
        refine lv_iload_n hx hb d_N_read_110 rfl (lv_at hl 2 rfl) ?_
        refine ar_ld hx hb hK hP 1 2 rfl rfl (show 7 * g < 2800 by omega) (by decide) d_N_read_111 ?_
        refine lv_iconst (v := 3) hx hb d_N_read_112 (by decide) ?_
        refine lv_icmp_ne (tgt := 137) hx hb d_N_read_113 (by decide) (fun c19 => absurd e3 c19) (fun _ => ?_)
        refine lv_aload_n hx hb d_N_read_116 rfl (lv_at hl 1 rfl) ?_
        refine lv_iload_n hx hb d_N_read_117 rfl (lv_at hl 0 rfl) ?_
        refine lv_aload_n hx hb d_N_read_118 rfl (lv_at hl 1 rfl) ?_
        refine va_get (D := D) (C := R_N) (T := F_N) (N := 25) hx hb htw uw_N hown hK hP 0 rfl rfl 24 (by decide) (htw _ k_N_67) (fun _ h9 => h9) rfl d_N_read_119 ?_
        refine lv_iload_n hx hb d_N_read_122 rfl (lv_at hl 2 rfl) ?_
        refine lv_iconst (v := 4) hx hb d_N_read_123 (by decide) ?_
        refine lv_iadd hx hb d_N_read_124 ?_
        refine sk_as (y := nI (7 * g + 4)) (nI_add (7 * g) 4) ?_
        refine ar_ld hx hb hK hP 1 2 rfl rfl (show 7 * g + 4 < 2800 by omega) (by decide) d_N_read_125 ?_
        refine lv_aload_n hx hb d_N_read_126 rfl (lv_at hl 1 rfl) ?_
        refine va_get (D := D) (C := R_N) (T := F_N) (N := 25) hx hb htw uw_N hown hK hP 0 rfl rfl 24 (by decide) (htw _ k_N_67) (fun _ h9 => h9) rfl d_N_read_127 ?_
        refine lv_iload_n hx hb d_N_read_130 rfl (lv_at hl 2 rfl) ?_
        refine lv_iconst (v := 5) hx hb d_N_read_131 (by decide) ?_
        refine lv_iadd hx hb d_N_read_132 ?_
        refine sk_as (y := nI (7 * g + 5)) (nI_add (7 * g) 5) ?_
        refine ar_ld hx hb hK hP 1 2 rfl rfl (show 7 * g + 5 < 2800 by omega) (by decide) d_N_read_133 ?_
        have hF9 := wk_F hD hS hA
        refine cm_V (n := 3) [.int (nI i), .int (R (7 * g + 4)), .int (R (7 * g + 5))] hC (t_N_readResult l D cM cG cI cJ r rr ra th Sr off nm ng now F R _ (R (7 * g + 4)) (R (7 * g + 5)) i hi hst) ⟨kc_N_readResult, kn_N, k_N_113, ki_N_readResult, kv_N_readResult⟩ (by decide +kernel) ⟨rfl, rfl, Nat.le_of_ble_eq_true rfl, Nat.le_of_ble_eq_true rfl⟩ x_0 (yt_Y D cM cG cI cJ) hY trivial (va_recv hK hP (ci := 3) (q0 := 0) rfl rfl) hP (wk_T hD) hS hF9 rfl hl.1 rfl (Nat.le_of_ble_eq_true rfl) d_N_read_134 ⟨Nat.le_of_ble_eq_true rfl, Nat.le_of_ble_eq_true rfl⟩ (fun _ H locs _ hP1 hD1 hz9 hk9 hS => ?_)
        have hP : va_P D cl_L (ws_N cI r rr ra th Sr (off, nm, ng, now, lr_F F i (R (7 * g + 4)) (R (7 * g + 5)), R)) H := hP1
        have hD : va_D A (ws_N cI r rr ra th Sr (off, nm, ng, now, lr_F F i (R (7 * g + 4)) (R (7 * g + 5)), R)) := wk_D hD1 hF9
        refine lv_aload_n hx hb d_N_read_137 rfl (lv_at hl 1 rfl) ?_
        refine va_get (D := D) (C := R_N) (T := F_N) (N := 25) hx hb htw uw_N hown hK hP 0 rfl rfl 24 (by decide) (htw _ k_N_67) (fun _ h9 => h9) rfl d_N_read_138 ?_
        refine lv_iload_n hx hb d_N_read_141 rfl (lv_at hl 2 rfl) ?_
        refine ar_ld hx hb hK hP 1 2 rfl rfl (show 7 * g < 2800 by omega) (by decide) d_N_read_142 ?_
        refine lv_iconst (v := 4) hx hb d_N_read_143 (by decide) ?_
        refine lv_icmp_ne (tgt := 231) hx hb d_N_read_144 (by decide) (fun _ => ?_) (fun c20 => absurd c20 (show ¬ R (7 * g) = 4 by rw [e3]; decide))
        subst hAe
        have e_S : ac_S (off, nm, ng, now, F, R) g = (off, nm, ng, now, lr_F F i (R (7 * g + 4)) (R (7 * g + 5)), R) := by simp only [ac_S, if_neg e1, if_neg e2, if_pos e3, hxi, hcl]
        exact W.vret hx hb hr (fun t ht hW => ⟨⟨(), rfl, trivial, by rw [ht, e_S]; exact hP, by rw [e_S]; exact hD⟩, hS.F ht⟩) hS.2.2 d_N_read_231
      · by_cases e4 : R (7 * g) = 4
        · refine lv_aload_n hx hb d_N_read_9 rfl (lv_at hl 1 rfl) ?_
          refine va_get (D := D) (C := R_N) (T := F_N) (N := 25) hx hb htw uw_N hown hK hP 0 rfl rfl 24 (by decide) (htw _ k_N_67) (fun _ h9 => h9) rfl d_N_read_10 ?_
          refine lv_iload_n hx hb d_N_read_13 rfl (lv_at hl 2 rfl) ?_
          refine ar_ld hx hb hK hP 1 2 rfl rfl (show 7 * g < 2800 by omega) (by decide) d_N_read_14 ?_
          refine lv_iconst (v := 1) hx hb d_N_read_15 (by decide) ?_
          refine lv_icmp_ne (tgt := 26) hx hb d_N_read_16 (by decide) (fun _ => ?_) (fun c21 => absurd c21 (show ¬ R (7 * g) = 1 by rw [e4]; decide))
          refine lv_aload_n hx hb d_N_read_26 rfl (lv_at hl 1 rfl) ?_
          refine va_get (D := D) (C := R_N) (T := F_N) (N := 25) hx hb htw uw_N hown hK hP 0 rfl rfl 24 (by decide) (htw _ k_N_67) (fun _ h9 => h9) rfl d_N_read_27 ?_
          refine lv_iload_n hx hb d_N_read_30 rfl (lv_at hl 2 rfl) ?_
          refine ar_ld hx hb hK hP 1 2 rfl rfl (show 7 * g < 2800 by omega) (by decide) d_N_read_31 ?_
          refine lv_bipush (v := 6) hx hb d_N_read_32 (by decide) ?_
          refine lv_icmp_ne (tgt := 44) hx hb d_N_read_34 (by decide) (fun _ => ?_) (fun c22 => absurd c22 (show ¬ R (7 * g) = 6 by rw [e4]; decide))
          refine lv_aload_n hx hb d_N_read_44 rfl (lv_at hl 1 rfl) ?_
          refine va_get (D := D) (C := R_N) (T := F_N) (N := 25) hx hb htw uw_N hown hK hP 0 rfl rfl 24 (by decide) (htw _ k_N_67) (fun _ h9 => h9) rfl d_N_read_45 ?_
          refine lv_iload_n hx hb d_N_read_48 rfl (lv_at hl 2 rfl) ?_
          refine ar_ld hx hb hK hP 1 2 rfl rfl (show 7 * g < 2800 by omega) (by decide) d_N_read_49 ?_
          refine lv_iconst (v := 2) hx hb d_N_read_50 (by decide) ?_
          refine lv_icmp_ne (tgt := 106) hx hb d_N_read_51 (by decide) (fun _ => ?_) (fun c23 => absurd c23 (show ¬ R (7 * g) = 2 by rw [e4]; decide))
          refine lv_aload_n hx hb d_N_read_106 rfl (lv_at hl 1 rfl) ?_
          refine va_get (D := D) (C := R_N) (T := F_N) (N := 25) hx hb htw uw_N hown hK hP 0 rfl rfl 24 (by decide) (htw _ k_N_67) (fun _ h9 => h9) rfl d_N_read_107 ?_
          refine lv_iload_n hx hb d_N_read_110 rfl (lv_at hl 2 rfl) ?_
          refine ar_ld hx hb hK hP 1 2 rfl rfl (show 7 * g < 2800 by omega) (by decide) d_N_read_111 ?_
          refine lv_iconst (v := 3) hx hb d_N_read_112 (by decide) ?_
          refine lv_icmp_ne (tgt := 137) hx hb d_N_read_113 (by decide) (fun _ => ?_) (fun c24 => absurd c24 (show ¬ R (7 * g) = 3 by rw [e4]; decide))
          refine lv_aload_n hx hb d_N_read_137 rfl (lv_at hl 1 rfl) ?_
          refine va_get (D := D) (C := R_N) (T := F_N) (N := 25) hx hb htw uw_N hown hK hP 0 rfl rfl 24 (by decide) (htw _ k_N_67) (fun _ h9 => h9) rfl d_N_read_138 ?_
          refine lv_iload_n hx hb d_N_read_141 rfl (lv_at hl 2 rfl) ?_
          refine ar_ld hx hb hK hP 1 2 rfl rfl (show 7 * g < 2800 by omega) (by decide) d_N_read_142 ?_
          refine lv_iconst (v := 4) hx hb d_N_read_143 (by decide) ?_
          refine lv_icmp_ne (tgt := 231) hx hb d_N_read_144 (by decide) (fun c25 => absurd e4 c25) (fun _ => ?_)
          refine lv_aload_n hx hb d_N_read_147 rfl (lv_at hl 1 rfl) ?_
          refine va_get (D := D) (C := R_N) (T := F_N) (N := 25) hx hb htw uw_N hown hK hP 0 rfl rfl 11 (by decide) (htw _ k_N_28) (fun _ h9 => h9) rfl d_N_read_148 ?_
          refine lv_iload_n hx hb d_N_read_151 rfl (lv_at hl 0 rfl) ?_
          refine ar_ld hx hb hK hP 8 2 rfl rfl hi (by decide) d_N_read_152 ?_
          refine lv_aload_n hx hb d_N_read_153 rfl (lv_at hl 1 rfl) ?_
          refine va_get (D := D) (C := R_N) (T := F_N) (N := 25) hx hb htw uw_N hown hK hP 0 rfl rfl 6 (by decide) (htw _ k_N_13) (fun _ h9 => h9) rfl d_N_read_154 ?_
          refine lv_iload_n hx hb d_N_read_157 rfl (lv_at hl 0 rfl) ?_
          refine ar_ld hx hb hK hP 3 2 rfl rfl hi (by decide) d_N_read_158 ?_
          refine lv_icmp_ne (tgt := 166) hx hb d_N_read_159 (by decide) (fun c26 => ?_) (fun c26 => ?_)
          · refine lv_iconst (v := 0) hx hb d_N_read_166 (by decide) ?_
            refine lv_istore_n (lv' := [(3, .int 0), (2, .int (nI i)), (0, .ref r), (1, .int (nI (7 * g)))]) hx hb d_N_read_167 rfl hl (by decide) rfl (fun ls hl => ?_)
            refine lv_iload_n hx hb d_N_read_168 rfl (lv_at hl 0 rfl) ?_
            refine lv_if_eq (tgt := 189) hx hb d_N_read_169 (by decide) (fun _ => ?_) (fun q9 => absurd rfl q9)
            refine lv_iload_n hx hb d_N_read_189 rfl (lv_at hl 0 rfl) ?_
            refine lv_if_eq (tgt := 201) hx hb d_N_read_190 (by decide) (fun _ => ?_) (fun q9 => absurd rfl q9)
            refine lv_aload_n hx hb d_N_read_201 rfl (lv_at hl 2 rfl) ?_
            refine lv_iconst (v := 5) hx hb d_N_read_202 (by decide) ?_
            refine lv_iload_n hx hb d_N_read_203 rfl (lv_at hl 1 rfl) ?_
            refine lv_aload_n hx hb d_N_read_204 rfl (lv_at hl 2 rfl) ?_
            refine va_get (D := D) (C := R_N) (T := F_N) (N := 25) hx hb htw uw_N hown hK hP 0 rfl rfl 6 (by decide) (htw _ k_N_13) (fun _ h9 => h9) rfl d_N_read_205 ?_
            refine lv_iload_n hx hb d_N_read_208 rfl (lv_at hl 1 rfl) ?_
            refine ar_ld hx hb hK hP 3 2 rfl rfl hi (by decide) d_N_read_209 ?_
            refine lv_aload_n hx hb d_N_read_210 rfl (lv_at hl 2 rfl) ?_
            refine va_get (D := D) (C := R_N) (T := F_N) (N := 25) hx hb htw uw_N hown hK hP 0 rfl rfl 5 (by decide) (htw _ k_N_7) (fun _ h9 => h9) rfl d_N_read_211 ?_
            refine lv_iload_n hx hb d_N_read_214 rfl (lv_at hl 1 rfl) ?_
            refine ar_ld hx hb hK hP 2 2 rfl rfl hi (by decide) d_N_read_215 ?_
            refine lv_aload_n hx hb d_N_read_216 rfl (lv_at hl 2 rfl) ?_
            refine va_get (D := D) (C := R_N) (T := F_N) (N := 25) hx hb htw uw_N hown hK hP 0 rfl rfl 22 (by decide) (htw _ k_N_61) (fun _ h9 => h9) rfl d_N_read_217 ?_
            refine lv_iload_n hx hb d_N_read_220 rfl (lv_at hl 1 rfl) ?_
            refine ar_ld hx hb hK hP 19 2 rfl rfl hi (by decide) d_N_read_221 ?_
            refine lv_aload_n hx hb d_N_read_222 rfl (lv_at hl 2 rfl) ?_
            refine va_get (D := D) (C := R_N) (T := F_N) (N := 25) hx hb htw uw_N hown hK hP 0 rfl rfl 23 (by decide) (htw _ k_N_64) (fun _ h9 => h9) rfl d_N_read_223 ?_
            refine lv_iload_n hx hb d_N_read_226 rfl (lv_at hl 1 rfl) ?_
            refine ar_ld hx hb hK hP 20 2 rfl rfl hi (by decide) d_N_read_227 ?_
            have hF9 := wk_F hD hS hA
            refine cm_V (n := 6) [.int 5, .int (nI i), .int (F 1 i), .int (F 0 i), .int (F 17 i), .int (F 18 i)] hC (t_N_send l D cM cG cI cJ r rr ra th Sr off nm ng now F R _ 5 (nI i) (F 1 i) (F 0 i) (F 17 i) (F 18 i) hg) ⟨kc_N_send, kn_N, k_N_96, ki_N_send, kv_N_send⟩ (by decide +kernel) ⟨rfl, rfl, Nat.le_of_ble_eq_true rfl, Nat.le_of_ble_eq_true rfl⟩ x_0 (yt_Y D cM cG cI cJ) hY trivial (va_recv hK hP (ci := 3) (q0 := 0) rfl rfl) hP (wk_T hD) hS hF9 rfl hl.1 rfl (Nat.le_of_ble_eq_true rfl) d_N_read_228 ⟨Nat.le_of_ble_eq_true rfl, Nat.le_of_ble_eq_true rfl⟩ (fun _ H locs _ hP1 hD1 hz9 hk9 hS => ?_)
            have hP : va_P D cl_L (ws_N cI r rr ra th Sr (off, nm, ng + 1, now, F, sn_R R ng 5 (nI i) (F 1 i) (F 0 i) (F 17 i) (F 18 i))) H := hP1
            have hD : va_D A (ws_N cI r rr ra th Sr (off, nm, ng + 1, now, F, sn_R R ng 5 (nI i) (F 1 i) (F 0 i) (F 17 i) (F 18 i))) := wk_D hD1 hF9
            subst hAe
            have e_S : ac_S (off, nm, ng, now, F, R) g = (off, nm, ng + 1, now, F, sn_R R ng 5 (nI i) (F 1 i) (F 0 i) (F 17 i) (F 18 i)) := by simp only [ac_S, if_neg e1, if_neg e2, if_neg e3, if_pos e4, an_R, if_neg c26, hxi, hcl]
            exact W.vret hx hb hr (fun t ht hW => ⟨⟨(), rfl, trivial, by rw [ht, e_S]; exact hP, by rw [e_S]; exact hD⟩, hS.F ht⟩) hS.2.2 d_N_read_231
          · refine lv_iconst (v := 1) hx hb d_N_read_162 (by decide) ?_
            refine lv_goto (tgt := 167) hx hb d_N_read_163 (by decide) ?_
            refine lv_istore_n (lv' := [(3, .int 1), (2, .int (nI i)), (0, .ref r), (1, .int (nI (7 * g)))]) hx hb d_N_read_167 rfl hl (by decide) rfl (fun ls hl => ?_)
            refine lv_iload_n hx hb d_N_read_168 rfl (lv_at hl 0 rfl) ?_
            refine lv_if_eq (tgt := 189) hx hb d_N_read_169 (by decide) (fun q9 => absurd q9 (by decide)) (fun _ => ?_)
            refine lv_aload_n hx hb d_N_read_172 rfl (lv_at hl 2 rfl) ?_
            refine va_get (D := D) (C := R_N) (T := F_N) (N := 25) hx hb htw uw_N hown hK hP 0 rfl rfl 14 (by decide) (htw _ k_N_37) (fun _ h9 => h9) rfl d_N_read_173 ?_
            refine lv_iload_n hx hb d_N_read_176 rfl (lv_at hl 1 rfl) ?_
            refine ar_ld hx hb hK hP 11 2 rfl rfl hi (by decide) d_N_read_177 ?_
            refine lv_if_lt (tgt := 189) hx hb d_N_read_178 (by decide) (fun c27 => ?_) (fun c27 => ?_)
            · refine lv_iload_n hx hb d_N_read_189 rfl (lv_at hl 0 rfl) ?_
              refine lv_if_eq (tgt := 201) hx hb d_N_read_190 (by decide) (fun q9 => absurd q9 (by decide)) (fun _ => ?_)
              refine lv_aload_n hx hb d_N_read_193 rfl (lv_at hl 2 rfl) ?_
              refine lv_iload_n hx hb d_N_read_194 rfl (lv_at hl 1 rfl) ?_
              have hF9 := wk_F hD hS hA
              refine cm_V (n := 1) [.int (nI i)] hC (t_N_tellArrival l D cM cG cI cJ r rr ra th Sr off nm ng now F R _ i hi hg) ⟨kc_N_tellArrival, kn_N, k_N_103, ki_N_tellArrival, kv_N_tellArrival⟩ (by decide +kernel) ⟨rfl, rfl, Nat.le_of_ble_eq_true rfl, Nat.le_of_ble_eq_true rfl⟩ x_0 (yt_Y D cM cG cI cJ) hY trivial (va_recv hK hP (ci := 3) (q0 := 0) rfl rfl) hP (wk_T hD) hS hF9 rfl hl.1 rfl (Nat.le_of_ble_eq_true rfl) d_N_read_195 ⟨Nat.le_of_ble_eq_true rfl, Nat.le_of_ble_eq_true rfl⟩ (fun _ H locs _ hP1 hD1 hz9 hk9 hS => ?_)
              have e_R9 : sn_R R ng 2 (nI i) (F 6 i) (F 0 i) (Sr i) (F 8 i) = sn_R R ng 2 (nI i) (F 6 i) (F 0 i) (F 7 i) (F 8 i) := by rw [hSr (fun q => absurd (show 0 ≤ (F 1 i).toInt from h1) (by rw [← c26, q]; decide))]
              rw [e_R9] at hP1 hD1
              have hP : va_P D cl_L (ws_N cI r rr ra th Sr (off, nm, ng + 1, now, F, sn_R R ng 2 (nI i) (F 6 i) (F 0 i) (F 7 i) (F 8 i))) H := hP1
              have hD : va_D A (ws_N cI r rr ra th Sr (off, nm, ng + 1, now, F, sn_R R ng 2 (nI i) (F 6 i) (F 0 i) (F 7 i) (F 8 i))) := wk_D hD1 hF9
              refine lv_goto (tgt := 231) hx hb d_N_read_198 (by decide) ?_
              subst hAe
              have e_S : ac_S (off, nm, ng, now, F, R) g = (off, nm, ng + 1, now, F, sn_R R ng 2 (nI i) (F 6 i) (F 0 i) (F 7 i) (F 8 i)) := by simp only [ac_S, if_neg e1, if_neg e2, if_neg e3, if_pos e4, an_R, if_pos c26, if_pos ((n_1 h9).mp c27), hxi, hcl]
              exact W.vret hx hb hr (fun t ht hW => ⟨⟨(), rfl, trivial, by rw [ht, e_S]; exact hP, by rw [e_S]; exact hD⟩, hS.F ht⟩) hS.2.2 d_N_read_231
            · refine lv_aload_n hx hb d_N_read_181 rfl (lv_at hl 2 rfl) ?_
              refine lv_iload_n hx hb d_N_read_182 rfl (lv_at hl 1 rfl) ?_
              have hF9 := wk_F hD hS hA
              refine cm_V (n := 1) [.int (nI i)] hC (t_N_tellResult l D cM cG cI cJ r rr ra th Sr off nm ng now F R _ i hi hg) ⟨kc_N_tellResult, kn_N, k_N_107, ki_N_tellResult, kv_N_tellResult⟩ (by decide +kernel) ⟨rfl, rfl, Nat.le_of_ble_eq_true rfl, Nat.le_of_ble_eq_true rfl⟩ x_0 (yt_Y D cM cG cI cJ) hY trivial (va_recv hK hP (ci := 3) (q0 := 0) rfl rfl) hP (wk_T hD) hS hF9 rfl hl.1 rfl (Nat.le_of_ble_eq_true rfl) d_N_read_183 ⟨Nat.le_of_ble_eq_true rfl, Nat.le_of_ble_eq_true rfl⟩ (fun _ H locs _ hP1 hD1 hz9 hk9 hS => ?_)
              have e_R9 : sn_R R ng 3 (nI i) (F 6 i) (F 0 i) (F 9 i) (Sr i) = sn_R R ng 3 (nI i) (F 6 i) (F 0 i) (F 9 i) (F 7 i) := by rw [hSr (fun q => absurd (show 0 ≤ (F 1 i).toInt from h1) (by rw [← c26, q]; decide))]
              rw [e_R9] at hP1 hD1
              have hP : va_P D cl_L (ws_N cI r rr ra th Sr (off, nm, ng + 1, now, F, sn_R R ng 3 (nI i) (F 6 i) (F 0 i) (F 9 i) (F 7 i))) H := hP1
              have hD : va_D A (ws_N cI r rr ra th Sr (off, nm, ng + 1, now, F, sn_R R ng 3 (nI i) (F 6 i) (F 0 i) (F 9 i) (F 7 i))) := wk_D hD1 hF9
              refine lv_goto (tgt := 231) hx hb d_N_read_186 (by decide) ?_
              subst hAe
              have e_S : ac_S (off, nm, ng, now, F, R) g = (off, nm, ng + 1, now, F, sn_R R ng 3 (nI i) (F 6 i) (F 0 i) (F 9 i) (F 7 i)) := by simp only [ac_S, if_neg e1, if_neg e2, if_neg e3, if_pos e4, an_R, if_pos c26, if_neg (fun q => c27 ((n_1 h9).mpr q)), hxi, hcl]
              exact W.vret hx hb hr (fun t ht hW => ⟨⟨(), rfl, trivial, by rw [ht, e_S]; exact hP, by rw [e_S]; exact hD⟩, hS.F ht⟩) hS.2.2 d_N_read_231
        · by_cases e6 : R (7 * g) = 6
          · refine lv_aload_n hx hb d_N_read_9 rfl (lv_at hl 1 rfl) ?_
            refine va_get (D := D) (C := R_N) (T := F_N) (N := 25) hx hb htw uw_N hown hK hP 0 rfl rfl 24 (by decide) (htw _ k_N_67) (fun _ h9 => h9) rfl d_N_read_10 ?_
            refine lv_iload_n hx hb d_N_read_13 rfl (lv_at hl 2 rfl) ?_
            refine ar_ld hx hb hK hP 1 2 rfl rfl (show 7 * g < 2800 by omega) (by decide) d_N_read_14 ?_
            refine lv_iconst (v := 1) hx hb d_N_read_15 (by decide) ?_
            refine lv_icmp_ne (tgt := 26) hx hb d_N_read_16 (by decide) (fun _ => ?_) (fun c28 => absurd c28 (show ¬ R (7 * g) = 1 by rw [e6]; decide))
            refine lv_aload_n hx hb d_N_read_26 rfl (lv_at hl 1 rfl) ?_
            refine va_get (D := D) (C := R_N) (T := F_N) (N := 25) hx hb htw uw_N hown hK hP 0 rfl rfl 24 (by decide) (htw _ k_N_67) (fun _ h9 => h9) rfl d_N_read_27 ?_
            refine lv_iload_n hx hb d_N_read_30 rfl (lv_at hl 2 rfl) ?_
            refine ar_ld hx hb hK hP 1 2 rfl rfl (show 7 * g < 2800 by omega) (by decide) d_N_read_31 ?_
            refine lv_bipush (v := 6) hx hb d_N_read_32 (by decide) ?_
            refine lv_icmp_ne (tgt := 44) hx hb d_N_read_34 (by decide) (fun c29 => absurd e6 c29) (fun _ => ?_)
            refine lv_aload_n hx hb d_N_read_37 rfl (lv_at hl 1 rfl) ?_
            refine va_get (D := D) (C := R_N) (T := F_N) (N := 25) hx hb htw uw_N hown hK hP 0 rfl rfl 23 (by decide) (htw _ k_N_64) (fun _ h9 => h9) rfl d_N_read_38 ?_
            refine lv_iload_n hx hb d_N_read_41 rfl (lv_at hl 0 rfl) ?_
            refine lv_iconst (v := 1) hx hb d_N_read_42 (by decide) ?_
            refine ar_st hx hb hK hP hD hS 20 2 rfl rfl hi (by decide) d_N_read_43 (fun H locs hP hD hS => ?_)
            have hP : va_P D cl_L (ws_N cI r rr ra th Sr (off, nm, ng, now, up_F F 18 i 1, R)) H := hP
            have hD : va_D A (ws_N cI r rr ra th Sr (off, nm, ng, now, up_F F 18 i 1, R)) := hD
            refine lv_aload_n hx hb d_N_read_44 rfl (lv_at hl 1 rfl) ?_
            refine va_get (D := D) (C := R_N) (T := F_N) (N := 25) hx hb htw uw_N hown hK hP 0 rfl rfl 24 (by decide) (htw _ k_N_67) (fun _ h9 => h9) rfl d_N_read_45 ?_
            refine lv_iload_n hx hb d_N_read_48 rfl (lv_at hl 2 rfl) ?_
            refine ar_ld hx hb hK hP 1 2 rfl rfl (show 7 * g < 2800 by omega) (by decide) d_N_read_49 ?_
            refine lv_iconst (v := 2) hx hb d_N_read_50 (by decide) ?_
            refine lv_icmp_ne (tgt := 106) hx hb d_N_read_51 (by decide) (fun _ => ?_) (fun c30 => absurd c30 (show ¬ R (7 * g) = 2 by rw [e6]; decide))
            refine lv_aload_n hx hb d_N_read_106 rfl (lv_at hl 1 rfl) ?_
            refine va_get (D := D) (C := R_N) (T := F_N) (N := 25) hx hb htw uw_N hown hK hP 0 rfl rfl 24 (by decide) (htw _ k_N_67) (fun _ h9 => h9) rfl d_N_read_107 ?_
            refine lv_iload_n hx hb d_N_read_110 rfl (lv_at hl 2 rfl) ?_
            refine ar_ld hx hb hK hP 1 2 rfl rfl (show 7 * g < 2800 by omega) (by decide) d_N_read_111 ?_
            refine lv_iconst (v := 3) hx hb d_N_read_112 (by decide) ?_
            refine lv_icmp_ne (tgt := 137) hx hb d_N_read_113 (by decide) (fun _ => ?_) (fun c31 => absurd c31 (show ¬ R (7 * g) = 3 by rw [e6]; decide))
            refine lv_aload_n hx hb d_N_read_137 rfl (lv_at hl 1 rfl) ?_
            refine va_get (D := D) (C := R_N) (T := F_N) (N := 25) hx hb htw uw_N hown hK hP 0 rfl rfl 24 (by decide) (htw _ k_N_67) (fun _ h9 => h9) rfl d_N_read_138 ?_
            refine lv_iload_n hx hb d_N_read_141 rfl (lv_at hl 2 rfl) ?_
            refine ar_ld hx hb hK hP 1 2 rfl rfl (show 7 * g < 2800 by omega) (by decide) d_N_read_142 ?_
            refine lv_iconst (v := 4) hx hb d_N_read_143 (by decide) ?_
            refine lv_icmp_ne (tgt := 231) hx hb d_N_read_144 (by decide) (fun _ => ?_) (fun c32 => absurd c32 (show ¬ R (7 * g) = 4 by rw [e6]; decide))
            subst hAe
            have e_S : ac_S (off, nm, ng, now, F, R) g = (off, nm, ng, now, up_F F 18 i 1, R) := by simp only [ac_S, if_neg e1, if_neg e2, if_neg e3, if_neg e4, if_pos e6, hxi, hcl]
            exact W.vret hx hb hr (fun t ht hW => ⟨⟨(), rfl, trivial, by rw [ht, e_S]; exact hP, by rw [e_S]; exact hD⟩, hS.F ht⟩) hS.2.2 d_N_read_231
          · refine lv_aload_n hx hb d_N_read_9 rfl (lv_at hl 1 rfl) ?_
            refine va_get (D := D) (C := R_N) (T := F_N) (N := 25) hx hb htw uw_N hown hK hP 0 rfl rfl 24 (by decide) (htw _ k_N_67) (fun _ h9 => h9) rfl d_N_read_10 ?_
            refine lv_iload_n hx hb d_N_read_13 rfl (lv_at hl 2 rfl) ?_
            refine ar_ld hx hb hK hP 1 2 rfl rfl (show 7 * g < 2800 by omega) (by decide) d_N_read_14 ?_
            refine lv_iconst (v := 1) hx hb d_N_read_15 (by decide) ?_
            refine lv_icmp_ne (tgt := 26) hx hb d_N_read_16 (by decide) (fun _ => ?_) (fun c33 => absurd c33 e1)
            refine lv_aload_n hx hb d_N_read_26 rfl (lv_at hl 1 rfl) ?_
            refine va_get (D := D) (C := R_N) (T := F_N) (N := 25) hx hb htw uw_N hown hK hP 0 rfl rfl 24 (by decide) (htw _ k_N_67) (fun _ h9 => h9) rfl d_N_read_27 ?_
            refine lv_iload_n hx hb d_N_read_30 rfl (lv_at hl 2 rfl) ?_
            refine ar_ld hx hb hK hP 1 2 rfl rfl (show 7 * g < 2800 by omega) (by decide) d_N_read_31 ?_
            refine lv_bipush (v := 6) hx hb d_N_read_32 (by decide) ?_
            refine lv_icmp_ne (tgt := 44) hx hb d_N_read_34 (by decide) (fun _ => ?_) (fun c34 => absurd c34 e6)
            refine lv_aload_n hx hb d_N_read_44 rfl (lv_at hl 1 rfl) ?_
            refine va_get (D := D) (C := R_N) (T := F_N) (N := 25) hx hb htw uw_N hown hK hP 0 rfl rfl 24 (by decide) (htw _ k_N_67) (fun _ h9 => h9) rfl d_N_read_45 ?_
            refine lv_iload_n hx hb d_N_read_48 rfl (lv_at hl 2 rfl) ?_
            refine ar_ld hx hb hK hP 1 2 rfl rfl (show 7 * g < 2800 by omega) (by decide) d_N_read_49 ?_
            refine lv_iconst (v := 2) hx hb d_N_read_50 (by decide) ?_
            refine lv_icmp_ne (tgt := 106) hx hb d_N_read_51 (by decide) (fun _ => ?_) (fun c35 => absurd c35 e2)
            refine lv_aload_n hx hb d_N_read_106 rfl (lv_at hl 1 rfl) ?_
            refine va_get (D := D) (C := R_N) (T := F_N) (N := 25) hx hb htw uw_N hown hK hP 0 rfl rfl 24 (by decide) (htw _ k_N_67) (fun _ h9 => h9) rfl d_N_read_107 ?_
            refine lv_iload_n hx hb d_N_read_110 rfl (lv_at hl 2 rfl) ?_
            refine ar_ld hx hb hK hP 1 2 rfl rfl (show 7 * g < 2800 by omega) (by decide) d_N_read_111 ?_
            refine lv_iconst (v := 3) hx hb d_N_read_112 (by decide) ?_
            refine lv_icmp_ne (tgt := 137) hx hb d_N_read_113 (by decide) (fun _ => ?_) (fun c36 => absurd c36 e3)
            refine lv_aload_n hx hb d_N_read_137 rfl (lv_at hl 1 rfl) ?_
            refine va_get (D := D) (C := R_N) (T := F_N) (N := 25) hx hb htw uw_N hown hK hP 0 rfl rfl 24 (by decide) (htw _ k_N_67) (fun _ h9 => h9) rfl d_N_read_138 ?_
            refine lv_iload_n hx hb d_N_read_141 rfl (lv_at hl 2 rfl) ?_
            refine ar_ld hx hb hK hP 1 2 rfl rfl (show 7 * g < 2800 by omega) (by decide) d_N_read_142 ?_
            refine lv_iconst (v := 4) hx hb d_N_read_143 (by decide) ?_
            refine lv_icmp_ne (tgt := 231) hx hb d_N_read_144 (by decide) (fun _ => ?_) (fun c37 => absurd c37 e4)
            subst hAe
            have e_S : ac_S (off, nm, ng, now, F, R) g = (off, nm, ng, now, F, R) := by simp only [ac_S, if_neg e1, if_neg e2, if_neg e3, if_neg e4, if_neg e6, hxi, hcl]
            exact W.vret hx hb hr (fun t ht hW => ⟨⟨(), rfl, trivial, by rw [ht, e_S]; exact hP, by rw [e_S]; exact hD⟩, hS.F ht⟩) hS.2.2 d_N_read_231
set_option maxHeartbeats 4000000 in
set_option maxRecDepth 100000 in
theorem t_N_arrive (l : Launch) (D : va_G) (cM cG cI cJ : ClassId) (r rr : Nat) (ra : Nat → Nat) (th : Int32) (Sr : Nat → Int32) (off : Int32) (nm ng : Nat) (now : Int32) (F : Nat → Nat → Int32) (R : Nat → Int32) (sz : Nat) (x : Int32) (y : Int32) (z : Int32) (t9 : Nat) (hI : iv_S t9 (off, nm, ng, now, F, R)) (hSr : sr_P Sr (off, nm, ng, now, F, R)) : Met l y_N_arrive (Cond.code y_N_arrive c_N_arrive 4 (some .int) :: tw_L) ({ frames := 2, cells := 0, slots := 0, locals := 48 } : Room) (mu_P D (ws_N cI r rr ra th Sr (off, nm, ng, now, F, R)) sz (fun _ _ => True) (yt_P D cM cG cI cJ) [.ref r, .int x, .int y, .int z]) (va_Qi (fun (v : Int32) (S1 : Nat → Int32) => ((sp_ar (off, nm, ng, now, F, R) x y z).1 = 0 → v = (sp_ar (off, nm, ng, now, F, R) x y z).2.1) ∧ sr_P S1 (sp_ar (off, nm, ng, now, F, R) x y z).2.2) (mu_B D (ws_N cI r rr ra th Sr (off, nm, ng, now, F, R)) sz (fun S1 => ws_N cI r rr ra (sp_ar (off, nm, ng, now, F, R) x y z).1 S1 (sp_ar (off, nm, ng, now, F, R) x y z).2.2)) (va_A (ws_N cI r rr ra th Sr (off, nm, ng, now, F, R)) sz)) 0 0 (va_A (ws_N cI r rr ra th Sr (off, nm, ng, now, F, R)) sz) := by
  refine Met.ofW (cc := c_N_arrive) (maxL := 4) (ret := (some .int)) (by decide) rfl ?_
  intro p e s m args below meth c s₁ B hml hv
  obtain ⟨rfl, hsz, hP, hD0, hX, hY⟩ := hv
  have hx := B.exec
  have hb := B.bytes
  have hr := B.returns
  have htw : ∀ w ∈ tw_L, w.before _ s = true := fun w hw => atoms_spec (ws := (Cond.code y_N_arrive c_N_arrive 4 (some .int) :: tw_L)) B.pre w (List.mem_cons_of_mem _ hw)
  have hown : s.vm.findClass R_N = some m.cls := findClass_of_methodNamed B.named
  have hlocks := B.notSynchronized
  have hC : CallFix p m c c_N_arrive 4 s _ tw_L R_N := ⟨hx, hb, hml, hown, htw⟩
  have hK := hY.1
  have hl := lv_entry ([.ref r, .int x, .int y, .int z]) (n := 4) (Nat.le_of_ble_eq_true rfl)
  rw [lg_entry_eq]
  generalize (lg_sl ([.ref r, .int x, .int y, .int z]) ++ List.replicate (4 - (lg_sl ([.ref r, .int x, .int y, .int z])).length) Slot.unset).toArray = ls at hl ⊢
  have hl : lv_has ls 4 [(0, .ref r), (1, .int x), (2, .int y), (3, .int z)] := hl
  subst hsz
  obtain ⟨A, hAe⟩ : ∃ A : Nat → Prop, A = va_A (ws_N cI r rr ra th Sr (off, nm, ng, now, F, R)) s.heap.size := ⟨_, rfl⟩
  have hD : va_D A (ws_N cI r rr ra th Sr (off, nm, ng, now, F, R)) := by rw [hAe]; exact hD0.self
  have hA : ∀ q : Nat, s.heap.size ≤ q → A q := fun q h => by rw [hAe]; exact Or.inr h
  have hS : va_S A s.heap s.heap [] := va_S.rf
  obtain ⟨hof, hn20, hnow, ht4, hM, hZ, hG, hcn⟩ := id hI
  have hg200 : ng ≤ 200 := by have := cn_0 hM hcn; omega
  refine lv_aload_n hx hb d_N_arrive_0 rfl (lv_at hl 0 rfl) ?_
  refine lv_aload_n hx hb d_N_arrive_1 rfl (lv_at hl 0 rfl) ?_
  refine lv_iload_n hx hb d_N_arrive_2 rfl (lv_at hl 1 rfl) ?_
  refine cp_V (n := 1) [.int x] hC (t_N_isMovement l D cM cG cI cJ r rr ra th Sr off nm ng now F R x) ⟨kc_N_isMovement, kn_N, k_N_100, ki_N_isMovement, kv_N_isMovement⟩ (by decide +kernel) ⟨rfl, rfl, Nat.le_of_ble_eq_true rfl, Nat.le_of_ble_eq_true rfl⟩ x_0 (yt_Y D cM cG cI cJ) hY hP (va_recv hK hP (ci := 3) (q0 := 0) rfl rfl) rfl hl.1 rfl (Nat.le_of_ble_eq_true rfl) d_N_arrive_3 ⟨Nat.le_of_ble_eq_true rfl, Nat.le_of_ble_eq_true rfl⟩ (fun r1 h2 => ?_)
  rcases h2 with ⟨rfl, b3⟩ | ⟨rfl, b3⟩
  · obtain ⟨i, hi, rfl⟩ := ix_of (show nm < 2147483648 by omega) b3
    have hix := b3
    have hcl : (nI i).toNatClampNeg = i := nI_clamp (by omega)
    have hMi := hM i hi
    have hi20 : i < 20 := by omega
    refine lv_if_eq (tgt := 31) hx hb d_N_arrive_6 (by decide) (fun q9 => absurd q9 (by decide)) (fun _ => ?_)
    refine lv_aload_n hx hb d_N_arrive_9 rfl (lv_at hl 0 rfl) ?_
    refine lv_iload_n hx hb d_N_arrive_10 rfl (lv_at hl 2 rfl) ?_
    refine cp_V (n := 1) [.int y] hC (t_N_isOffice l D cM cG cI cJ r rr ra th Sr off nm ng now F R y) ⟨kc_N_isOffice, kn_N, k_N_83, ki_N_isOffice, kv_N_isOffice⟩ (by decide +kernel) ⟨rfl, rfl, Nat.le_of_ble_eq_true rfl, Nat.le_of_ble_eq_true rfl⟩ x_0 (yt_Y D cM cG cI cJ) hY hP (va_recv hK hP (ci := 3) (q0 := 0) rfl rfl) rfl hl.1 rfl (Nat.le_of_ble_eq_true rfl) d_N_arrive_11 ⟨Nat.le_of_ble_eq_true rfl, Nat.le_of_ble_eq_true rfl⟩ (fun r4 h5 => ?_)
    rcases h5 with ⟨rfl, b6⟩ | ⟨rfl, b6⟩
    · refine lv_if_eq (tgt := 31) hx hb d_N_arrive_14 (by decide) (fun q9 => absurd q9 (by decide)) (fun _ => ?_)
      refine lv_iload_n hx hb d_N_arrive_17 rfl (lv_at hl 3 rfl) ?_
      refine lv_iconst (v := 0) hx hb d_N_arrive_18 (by decide) ?_
      refine lv_ldc (v := 1000000000) hx hb hown (htw _ k_N_94) d_N_arrive_19 ?_
      refine cp_S (n := 3) [.int z, .int 0, .int 1000000000] hC (t_N_in l D cM cG cI cJ z 0 1000000000) ⟨kc_N_in, kn_N, k_N_90, ks_N_in⟩ (by decide +kernel) ⟨rfl, rfl, Nat.le_of_ble_eq_true rfl, Nat.le_of_ble_eq_true rfl⟩ x_0 (yt_Y D cM cG cI cJ) hY trivial rfl hl.1 rfl (Nat.le_of_ble_eq_true rfl) d_N_arrive_21 ⟨Nat.le_of_ble_eq_true rfl, Nat.le_of_ble_eq_true rfl⟩ (fun r7 h8 => ?_)
      rcases h8 with ⟨rfl, b9⟩ | ⟨rfl, b9⟩
      · refine lv_if_eq (tgt := 31) hx hb d_N_arrive_24 (by decide) (fun q9 => absurd q9 (by decide)) (fun _ => ?_)
        refine lv_iconst (v := 0) hx hb d_N_arrive_27 (by decide) ?_
        refine lv_goto (tgt := 32) hx hb d_N_arrive_28 (by decide) ?_
        refine va_put (D := D) (ci := 3) (v := .int 0) (ty := .int) (C := R_N) (T := F_N) (N := 25) hx hb htw uw_N ft_N tk_N n_N hown hK hP hD hS 0 rfl rfl 0 (by decide) (htw _ k_N_74) (fun _ h9 => h9) rfl (by decide +kernel) rfl rfl (Nat.le_of_ble_eq_true rfl) d_N_arrive_32 (fun H locs hP hD hS => ?_)
        have hP : va_P D cl_L (ws_N cI r rr ra 0 Sr (off, nm, ng, now, F, R)) H := hP
        have hD : va_D A (ws_N cI r rr ra 0 Sr (off, nm, ng, now, F, R)) := hD
        refine lv_aload_n hx hb d_N_arrive_35 rfl (lv_at hl 0 rfl) ?_
        refine va_get (D := D) (C := R_N) (T := F_N) (N := 25) hx hb htw uw_N hown hK hP 0 rfl rfl 0 (by decide) (htw _ k_N_74) (fun _ h9 => h9) rfl d_N_arrive_36 ?_
        refine lv_if_gt (tgt := 72) hx hb d_N_arrive_39 (by decide) (fun q9 => absurd q9 (by decide)) (fun _ => ?_)
        refine lv_aload_n hx hb d_N_arrive_42 rfl (lv_at hl 0 rfl) ?_
        refine va_get (D := D) (C := R_N) (T := F_N) (N := 25) hx hb htw uw_N hown hK hP 0 rfl rfl 11 (by decide) (htw _ k_N_28) (fun _ h9 => h9) rfl d_N_arrive_43 ?_
        refine lv_iload_n hx hb d_N_arrive_46 rfl (lv_at hl 1 rfl) ?_
        refine ar_ld hx hb hK hP 8 2 rfl rfl hi20 (by decide) d_N_arrive_47 ?_
        refine lv_if_ge (tgt := 72) hx hb d_N_arrive_48 (by decide) (fun c10 => ?_) (fun c10 => ?_)
        · refine lv_iconst (v := 0) hx hb d_N_arrive_72 (by decide) ?_
          subst hAe
          have e_S : sp_ar (off, nm, ng, now, F, R) (nI i) y z = (0, 0, (off, nm, ng, now, F, R)) := by simp only [sp_ar, hcl]; rw [if_pos ⟨hix, b6, b9⟩, if_pos (Or.inl (fun q => absurd c10 (by rw [q]; decide)))]
          exact W.iret (v := 0) hx hb hr (fun t ht hW => ⟨⟨_, Sr, rfl, ⟨fun _ => by rw [e_S], by rw [e_S]; exact hSr⟩, by rw [ht, e_S]; exact hP, by rw [e_S]; exact hD⟩, hS.F ht⟩) hS.2.2 d_N_arrive_73
        · refine lv_iload_n hx hb d_N_arrive_51 rfl (lv_at hl 2 rfl) ?_
          refine lv_aload_n hx hb d_N_arrive_52 rfl (lv_at hl 0 rfl) ?_
          refine va_get (D := D) (C := R_N) (T := F_N) (N := 25) hx hb htw uw_N hown hK hP 0 rfl rfl 5 (by decide) (htw _ k_N_7) (fun _ h9 => h9) rfl d_N_arrive_53 ?_
          refine lv_iload_n hx hb d_N_arrive_56 rfl (lv_at hl 1 rfl) ?_
          refine ar_ld hx hb hK hP 2 2 rfl rfl hi20 (by decide) d_N_arrive_57 ?_
          refine lv_icmp_eq (tgt := 72) hx hb d_N_arrive_58 (by decide) (fun c11 => ?_) (fun c11 => ?_)
          · refine lv_iconst (v := 0) hx hb d_N_arrive_72 (by decide) ?_
            subst hAe
            have e_S : sp_ar (off, nm, ng, now, F, R) (nI i) y z = (0, 0, (off, nm, ng, now, F, R)) := by simp only [sp_ar, hcl]; rw [if_pos ⟨hix, b6, b9⟩, if_pos (Or.inr (Or.inl c11))]
            exact W.iret (v := 0) hx hb hr (fun t ht hW => ⟨⟨_, Sr, rfl, ⟨fun _ => by rw [e_S], by rw [e_S]; exact hSr⟩, by rw [ht, e_S]; exact hP, by rw [e_S]; exact hD⟩, hS.F ht⟩) hS.2.2 d_N_arrive_73
          · refine lv_aload_n hx hb d_N_arrive_61 rfl (lv_at hl 0 rfl) ?_
            refine va_get (D := D) (C := R_N) (T := F_N) (N := 25) hx hb htw uw_N hown hK hP 0 rfl rfl 15 (by decide) (htw _ k_N_40) (fun _ h9 => h9) rfl d_N_arrive_62 ?_
            refine lv_iload_n hx hb d_N_arrive_65 rfl (lv_at hl 1 rfl) ?_
            refine ar_ld hx hb hK hP 12 2 rfl rfl hi20 (by decide) d_N_arrive_66 ?_
            refine lv_bipush (v := 6) hx hb d_N_arrive_67 (by decide) ?_
            refine lv_icmp_ne (tgt := 74) hx hb d_N_arrive_69 (by decide) (fun c12 => ?_) (fun c12 => ?_)
            · refine lv_aload_n hx hb d_N_arrive_74 rfl (lv_at hl 0 rfl) ?_
              refine va_get (D := D) (C := R_N) (T := F_N) (N := 25) hx hb htw uw_N hown hK hP 0 rfl rfl 11 (by decide) (htw _ k_N_28) (fun _ h9 => h9) rfl d_N_arrive_75 ?_
              refine lv_iload_n hx hb d_N_arrive_78 rfl (lv_at hl 1 rfl) ?_
              refine lv_iload_n hx hb d_N_arrive_79 rfl (lv_at hl 2 rfl) ?_
              refine ar_st hx hb hK hP hD hS 8 2 rfl rfl hi20 (by decide) d_N_arrive_80 (fun H locs hP hD hS => ?_)
              have hP : va_P D cl_L (ws_N cI r rr ra 0 Sr (off, nm, ng, now, up_F F 6 i y, R)) H := hP
              have hD : va_D A (ws_N cI r rr ra 0 Sr (off, nm, ng, now, up_F F 6 i y, R)) := hD
              refine lv_aload_n hx hb d_N_arrive_81 rfl (lv_at hl 0 rfl) ?_
              refine va_get (D := D) (C := R_N) (T := F_N) (N := 25) hx hb htw uw_N hown hK hP 0 rfl rfl 12 (by decide) (htw _ k_N_31) (fun _ h9 => h9) rfl d_N_arrive_82 ?_
              refine lv_iload_n hx hb d_N_arrive_85 rfl (lv_at hl 1 rfl) ?_
              refine lv_iload_n hx hb d_N_arrive_86 rfl (lv_at hl 3 rfl) ?_
              refine ar_st hx hb hK hP hD hS 9 2 rfl rfl hi20 (by decide) d_N_arrive_87 (fun H locs hP hD hS => ?_)
              have hP : va_P D cl_L (ws_N cI r rr ra 0 (upd Sr i z) (off, nm, ng, now, up_F (up_F F 6 i y) 7 i z, R)) H := hP
              have hD : va_D A (ws_N cI r rr ra 0 (upd Sr i z) (off, nm, ng, now, up_F (up_F F 6 i y) 7 i z, R)) := hD
              refine lv_aload_n hx hb d_N_arrive_88 rfl (lv_at hl 0 rfl) ?_
              refine va_get (D := D) (C := R_N) (T := F_N) (N := 25) hx hb htw uw_N hown hK hP 0 rfl rfl 13 (by decide) (htw _ k_N_34) (fun _ h9 => h9) rfl d_N_arrive_89 ?_
              refine lv_iload_n hx hb d_N_arrive_92 rfl (lv_at hl 1 rfl) ?_
              refine lv_aload_n hx hb d_N_arrive_93 rfl (lv_at hl 0 rfl) ?_
              refine va_get (D := D) (C := R_N) (T := F_N) (N := 25) hx hb htw uw_N hown hK hP 0 rfl rfl 4 (by decide) (htw _ k_N_87) (fun _ h9 => h9) rfl d_N_arrive_94 ?_
              refine lv_aload_n hx hb d_N_arrive_97 rfl (lv_at hl 0 rfl) ?_
              refine va_get (D := D) (C := R_N) (T := F_N) (N := 25) hx hb htw uw_N hown hK hP 0 rfl rfl 7 (by decide) (htw _ k_N_16) (fun _ h9 => h9) rfl d_N_arrive_98 ?_
              refine lv_iload_n hx hb d_N_arrive_101 rfl (lv_at hl 1 rfl) ?_
              refine ar_ld hx hb hK hP 4 2 rfl rfl hi20 (by decide) d_N_arrive_102 ?_
              refine lv_icmp_le (tgt := 110) hx hb d_N_arrive_103 (by decide) (fun c13 => ?_) (fun c13 => ?_)
              · refine lv_iconst (v := 0) hx hb d_N_arrive_110 (by decide) ?_
                refine ar_st hx hb hK hP hD hS 10 2 rfl rfl hi20 (by decide) d_N_arrive_111 (fun H locs hP hD hS => ?_)
                have hP : va_P D cl_L (ws_N cI r rr ra 0 (upd Sr i z) (off, nm, ng, now, up_F (up_F (up_F F 6 i y) 7 i z) 8 i 0, R)) H := hP
                have hD : va_D A (ws_N cI r rr ra 0 (upd Sr i z) (off, nm, ng, now, up_F (up_F (up_F F 6 i y) 7 i z) 8 i 0, R)) := hD
                refine lv_aload_n hx hb d_N_arrive_112 rfl (lv_at hl 0 rfl) ?_
                refine lv_iload_n hx hb d_N_arrive_113 rfl (lv_at hl 1 rfl) ?_
                have hF9 := wk_F hD hS hA
                refine cm_V (n := 1) [.int (nI i)] hC (t_N_tellArrival l D cM cG cI cJ r rr ra 0 (upd Sr i z) off nm ng now (up_F (up_F (up_F F 6 i y) 7 i z) 8 i 0) R _ i hi20 (show ng < 400 by omega)) ⟨kc_N_tellArrival, kn_N, k_N_103, ki_N_tellArrival, kv_N_tellArrival⟩ (by decide +kernel) ⟨rfl, rfl, Nat.le_of_ble_eq_true rfl, Nat.le_of_ble_eq_true rfl⟩ x_0 (yt_Y D cM cG cI cJ) hY trivial (va_recv hK hP (ci := 3) (q0 := 0) rfl rfl) hP (wk_T hD) hS hF9 rfl hl.1 rfl (Nat.le_of_ble_eq_true rfl) d_N_arrive_114 ⟨Nat.le_of_ble_eq_true rfl, Nat.le_of_ble_eq_true rfl⟩ (fun _ H locs _ hP1 hD1 hz9 hk9 hS => ?_)
                have e_R9 : sn_R R ng 2 (nI i) ((up_F (up_F (up_F F 6 i y) 7 i z) 8 i 0) 6 i) ((up_F (up_F (up_F F 6 i y) 7 i z) 8 i 0) 0 i) ((upd Sr i z) i) ((up_F (up_F (up_F F 6 i y) 7 i z) 8 i 0) 8 i) = sn_R R ng 2 (nI i) y (F 0 i) z 0 := by simp [up_at, upd]
                rw [e_R9] at hP1 hD1
                have hP : va_P D cl_L (ws_N cI r rr ra 0 (upd Sr i z) (off, nm, ng + 1, now, up_F (up_F (up_F F 6 i y) 7 i z) 8 i 0, sn_R R ng 2 (nI i) y (F 0 i) z 0)) H := hP1
                have hD : va_D A (ws_N cI r rr ra 0 (upd Sr i z) (off, nm, ng + 1, now, up_F (up_F (up_F F 6 i y) 7 i z) 8 i 0, sn_R R ng 2 (nI i) y (F 0 i) z 0)) := wk_D hD1 hF9
                refine lv_iload_n hx hb d_N_arrive_117 rfl (lv_at hl 2 rfl) ?_
                refine lv_aload_n hx hb d_N_arrive_118 rfl (lv_at hl 0 rfl) ?_
                refine va_get (D := D) (C := R_N) (T := F_N) (N := 25) hx hb htw uw_N hown hK hP 0 rfl rfl 6 (by decide) (htw _ k_N_13) (fun _ h9 => h9) rfl d_N_arrive_119 ?_
                refine lv_iload_n hx hb d_N_arrive_122 rfl (lv_at hl 1 rfl) ?_
                refine ar_ld hx hb hK hP 3 2 rfl rfl hi20 (by decide) d_N_arrive_123 ?_
                refine lv_icmp_eq (tgt := 143) hx hb d_N_arrive_124 (by decide) (fun c14 => ?_) (fun c14 => ?_)
                · refine lv_iconst (v := 1) hx hb d_N_arrive_143 (by decide) ?_
                  subst hAe
                  have e_S : sp_ar (off, nm, ng, now, F, R) (nI i) y z = (0, 1, (off, nm, ng + 1, now, up_F (up_F (up_F F 6 i y) 7 i z) 8 i 0, sn_R R ng 2 (nI i) y (F 0 i) z 0)) := by simp only [sp_ar, hcl]; rw [if_pos ⟨hix, b6, b9⟩, if_neg (fun q => q.elim (fun z => z ((n_1 hMi.2.2.2.2.2.1).mp (Int32.not_le.mp c10))) (fun z => z.elim c11 c12)), if_neg (show ¬ F 2 i < now from Int32.not_lt.mpr c13), if_pos (show y = F 1 i from c14)]
                  exact W.iret (v := 1) hx hb hr (fun t ht hW => ⟨⟨_, upd Sr i z, rfl, ⟨fun _ => by rw [e_S], by rw [e_S]; exact sr_ar hSr⟩, by rw [ht, e_S]; exact hP, by rw [e_S]; exact hD⟩, hS.F ht⟩) hS.2.2 d_N_arrive_144
                · refine lv_aload_n hx hb d_N_arrive_127 rfl (lv_at hl 0 rfl) ?_
                  refine lv_bipush (v := 6) hx hb d_N_arrive_128 (by decide) ?_
                  refine lv_iload_n hx hb d_N_arrive_130 rfl (lv_at hl 1 rfl) ?_
                  refine lv_iload_n hx hb d_N_arrive_131 rfl (lv_at hl 2 rfl) ?_
                  refine lv_aload_n hx hb d_N_arrive_132 rfl (lv_at hl 0 rfl) ?_
                  refine va_get (D := D) (C := R_N) (T := F_N) (N := 25) hx hb htw uw_N hown hK hP 0 rfl rfl 6 (by decide) (htw _ k_N_13) (fun _ h9 => h9) rfl d_N_arrive_133 ?_
                  refine lv_iload_n hx hb d_N_arrive_136 rfl (lv_at hl 1 rfl) ?_
                  refine ar_ld hx hb hK hP 3 2 rfl rfl hi20 (by decide) d_N_arrive_137 ?_
                  refine lv_iload_n hx hb d_N_arrive_138 rfl (lv_at hl 2 rfl) ?_
                  refine lv_iconst (v := 0) hx hb d_N_arrive_139 (by decide) ?_
                  have hF9 := wk_F hD hS hA
                  refine cm_V (n := 6) [.int 6, .int (nI i), .int y, .int (F 1 i), .int y, .int 0] hC (t_N_send l D cM cG cI cJ r rr ra 0 (upd Sr i z) off nm (ng + 1) now (up_F (up_F (up_F F 6 i y) 7 i z) 8 i 0) (sn_R R ng 2 (nI i) y (F 0 i) z 0) _ 6 (nI i) y (F 1 i) y 0 (show ng + 1 < 400 by omega)) ⟨kc_N_send, kn_N, k_N_96, ki_N_send, kv_N_send⟩ (by decide +kernel) ⟨rfl, rfl, Nat.le_of_ble_eq_true rfl, Nat.le_of_ble_eq_true rfl⟩ x_0 (yt_Y D cM cG cI cJ) hY trivial (va_recv hK hP (ci := 3) (q0 := 0) rfl rfl) hP (wk_T hD) hS hF9 rfl hl.1 rfl (Nat.le_of_ble_eq_true rfl) d_N_arrive_140 ⟨Nat.le_of_ble_eq_true rfl, Nat.le_of_ble_eq_true rfl⟩ (fun _ H locs _ hP1 hD1 hz9 hk9 hS => ?_)
                  have hP : va_P D cl_L (ws_N cI r rr ra 0 (upd Sr i z) (off, nm, ng + 1 + 1, now, up_F (up_F (up_F F 6 i y) 7 i z) 8 i 0, sn_R (sn_R R ng 2 (nI i) y (F 0 i) z 0) (ng + 1) 6 (nI i) y (F 1 i) y 0)) H := hP1
                  have hD : va_D A (ws_N cI r rr ra 0 (upd Sr i z) (off, nm, ng + 1 + 1, now, up_F (up_F (up_F F 6 i y) 7 i z) 8 i 0, sn_R (sn_R R ng 2 (nI i) y (F 0 i) z 0) (ng + 1) 6 (nI i) y (F 1 i) y 0)) := wk_D hD1 hF9
                  refine lv_iconst (v := 1) hx hb d_N_arrive_143 (by decide) ?_
                  subst hAe
                  have e_S : sp_ar (off, nm, ng, now, F, R) (nI i) y z = (0, 1, (off, nm, ng + 1 + 1, now, up_F (up_F (up_F F 6 i y) 7 i z) 8 i 0, sn_R (sn_R R ng 2 (nI i) y (F 0 i) z 0) (ng + 1) 6 (nI i) y (F 1 i) y 0)) := by simp only [sp_ar, hcl]; rw [if_pos ⟨hix, b6, b9⟩, if_neg (fun q => q.elim (fun z => z ((n_1 hMi.2.2.2.2.2.1).mp (Int32.not_le.mp c10))) (fun z => z.elim c11 c12)), if_neg (show ¬ F 2 i < now from Int32.not_lt.mpr c13), if_neg (show ¬ y = F 1 i from c14)]
                  exact W.iret (v := 1) hx hb hr (fun t ht hW => ⟨⟨_, upd Sr i z, rfl, ⟨fun _ => by rw [e_S], by rw [e_S]; exact sr_ar hSr⟩, by rw [ht, e_S]; exact hP, by rw [e_S]; exact hD⟩, hS.F ht⟩) hS.2.2 d_N_arrive_144
              · refine lv_iconst (v := 1) hx hb d_N_arrive_106 (by decide) ?_
                refine lv_goto (tgt := 111) hx hb d_N_arrive_107 (by decide) ?_
                refine ar_st hx hb hK hP hD hS 10 2 rfl rfl hi20 (by decide) d_N_arrive_111 (fun H locs hP hD hS => ?_)
                have hP : va_P D cl_L (ws_N cI r rr ra 0 (upd Sr i z) (off, nm, ng, now, up_F (up_F (up_F F 6 i y) 7 i z) 8 i 1, R)) H := hP
                have hD : va_D A (ws_N cI r rr ra 0 (upd Sr i z) (off, nm, ng, now, up_F (up_F (up_F F 6 i y) 7 i z) 8 i 1, R)) := hD
                refine lv_aload_n hx hb d_N_arrive_112 rfl (lv_at hl 0 rfl) ?_
                refine lv_iload_n hx hb d_N_arrive_113 rfl (lv_at hl 1 rfl) ?_
                have hF9 := wk_F hD hS hA
                refine cm_V (n := 1) [.int (nI i)] hC (t_N_tellArrival l D cM cG cI cJ r rr ra 0 (upd Sr i z) off nm ng now (up_F (up_F (up_F F 6 i y) 7 i z) 8 i 1) R _ i hi20 (show ng < 400 by omega)) ⟨kc_N_tellArrival, kn_N, k_N_103, ki_N_tellArrival, kv_N_tellArrival⟩ (by decide +kernel) ⟨rfl, rfl, Nat.le_of_ble_eq_true rfl, Nat.le_of_ble_eq_true rfl⟩ x_0 (yt_Y D cM cG cI cJ) hY trivial (va_recv hK hP (ci := 3) (q0 := 0) rfl rfl) hP (wk_T hD) hS hF9 rfl hl.1 rfl (Nat.le_of_ble_eq_true rfl) d_N_arrive_114 ⟨Nat.le_of_ble_eq_true rfl, Nat.le_of_ble_eq_true rfl⟩ (fun _ H locs _ hP1 hD1 hz9 hk9 hS => ?_)
                have e_R9 : sn_R R ng 2 (nI i) ((up_F (up_F (up_F F 6 i y) 7 i z) 8 i 1) 6 i) ((up_F (up_F (up_F F 6 i y) 7 i z) 8 i 1) 0 i) ((upd Sr i z) i) ((up_F (up_F (up_F F 6 i y) 7 i z) 8 i 1) 8 i) = sn_R R ng 2 (nI i) y (F 0 i) z 1 := by simp [up_at, upd]
                rw [e_R9] at hP1 hD1
                have hP : va_P D cl_L (ws_N cI r rr ra 0 (upd Sr i z) (off, nm, ng + 1, now, up_F (up_F (up_F F 6 i y) 7 i z) 8 i 1, sn_R R ng 2 (nI i) y (F 0 i) z 1)) H := hP1
                have hD : va_D A (ws_N cI r rr ra 0 (upd Sr i z) (off, nm, ng + 1, now, up_F (up_F (up_F F 6 i y) 7 i z) 8 i 1, sn_R R ng 2 (nI i) y (F 0 i) z 1)) := wk_D hD1 hF9
                refine lv_iload_n hx hb d_N_arrive_117 rfl (lv_at hl 2 rfl) ?_
                refine lv_aload_n hx hb d_N_arrive_118 rfl (lv_at hl 0 rfl) ?_
                refine va_get (D := D) (C := R_N) (T := F_N) (N := 25) hx hb htw uw_N hown hK hP 0 rfl rfl 6 (by decide) (htw _ k_N_13) (fun _ h9 => h9) rfl d_N_arrive_119 ?_
                refine lv_iload_n hx hb d_N_arrive_122 rfl (lv_at hl 1 rfl) ?_
                refine ar_ld hx hb hK hP 3 2 rfl rfl hi20 (by decide) d_N_arrive_123 ?_
                refine lv_icmp_eq (tgt := 143) hx hb d_N_arrive_124 (by decide) (fun c15 => ?_) (fun c15 => ?_)
                · refine lv_iconst (v := 1) hx hb d_N_arrive_143 (by decide) ?_
                  subst hAe
                  have e_S : sp_ar (off, nm, ng, now, F, R) (nI i) y z = (0, 1, (off, nm, ng + 1, now, up_F (up_F (up_F F 6 i y) 7 i z) 8 i 1, sn_R R ng 2 (nI i) y (F 0 i) z 1)) := by simp only [sp_ar, hcl]; rw [if_pos ⟨hix, b6, b9⟩, if_neg (fun q => q.elim (fun z => z ((n_1 hMi.2.2.2.2.2.1).mp (Int32.not_le.mp c10))) (fun z => z.elim c11 c12)), if_pos (show F 2 i < now from Int32.not_le.mp c13), if_pos (show y = F 1 i from c15)]
                  exact W.iret (v := 1) hx hb hr (fun t ht hW => ⟨⟨_, upd Sr i z, rfl, ⟨fun _ => by rw [e_S], by rw [e_S]; exact sr_ar hSr⟩, by rw [ht, e_S]; exact hP, by rw [e_S]; exact hD⟩, hS.F ht⟩) hS.2.2 d_N_arrive_144
                · refine lv_aload_n hx hb d_N_arrive_127 rfl (lv_at hl 0 rfl) ?_
                  refine lv_bipush (v := 6) hx hb d_N_arrive_128 (by decide) ?_
                  refine lv_iload_n hx hb d_N_arrive_130 rfl (lv_at hl 1 rfl) ?_
                  refine lv_iload_n hx hb d_N_arrive_131 rfl (lv_at hl 2 rfl) ?_
                  refine lv_aload_n hx hb d_N_arrive_132 rfl (lv_at hl 0 rfl) ?_
                  refine va_get (D := D) (C := R_N) (T := F_N) (N := 25) hx hb htw uw_N hown hK hP 0 rfl rfl 6 (by decide) (htw _ k_N_13) (fun _ h9 => h9) rfl d_N_arrive_133 ?_
                  refine lv_iload_n hx hb d_N_arrive_136 rfl (lv_at hl 1 rfl) ?_
                  refine ar_ld hx hb hK hP 3 2 rfl rfl hi20 (by decide) d_N_arrive_137 ?_
                  refine lv_iload_n hx hb d_N_arrive_138 rfl (lv_at hl 2 rfl) ?_
                  refine lv_iconst (v := 0) hx hb d_N_arrive_139 (by decide) ?_
                  have hF9 := wk_F hD hS hA
                  refine cm_V (n := 6) [.int 6, .int (nI i), .int y, .int (F 1 i), .int y, .int 0] hC (t_N_send l D cM cG cI cJ r rr ra 0 (upd Sr i z) off nm (ng + 1) now (up_F (up_F (up_F F 6 i y) 7 i z) 8 i 1) (sn_R R ng 2 (nI i) y (F 0 i) z 1) _ 6 (nI i) y (F 1 i) y 0 (show ng + 1 < 400 by omega)) ⟨kc_N_send, kn_N, k_N_96, ki_N_send, kv_N_send⟩ (by decide +kernel) ⟨rfl, rfl, Nat.le_of_ble_eq_true rfl, Nat.le_of_ble_eq_true rfl⟩ x_0 (yt_Y D cM cG cI cJ) hY trivial (va_recv hK hP (ci := 3) (q0 := 0) rfl rfl) hP (wk_T hD) hS hF9 rfl hl.1 rfl (Nat.le_of_ble_eq_true rfl) d_N_arrive_140 ⟨Nat.le_of_ble_eq_true rfl, Nat.le_of_ble_eq_true rfl⟩ (fun _ H locs _ hP1 hD1 hz9 hk9 hS => ?_)
                  have hP : va_P D cl_L (ws_N cI r rr ra 0 (upd Sr i z) (off, nm, ng + 1 + 1, now, up_F (up_F (up_F F 6 i y) 7 i z) 8 i 1, sn_R (sn_R R ng 2 (nI i) y (F 0 i) z 1) (ng + 1) 6 (nI i) y (F 1 i) y 0)) H := hP1
                  have hD : va_D A (ws_N cI r rr ra 0 (upd Sr i z) (off, nm, ng + 1 + 1, now, up_F (up_F (up_F F 6 i y) 7 i z) 8 i 1, sn_R (sn_R R ng 2 (nI i) y (F 0 i) z 1) (ng + 1) 6 (nI i) y (F 1 i) y 0)) := wk_D hD1 hF9
                  refine lv_iconst (v := 1) hx hb d_N_arrive_143 (by decide) ?_
                  subst hAe
                  have e_S : sp_ar (off, nm, ng, now, F, R) (nI i) y z = (0, 1, (off, nm, ng + 1 + 1, now, up_F (up_F (up_F F 6 i y) 7 i z) 8 i 1, sn_R (sn_R R ng 2 (nI i) y (F 0 i) z 1) (ng + 1) 6 (nI i) y (F 1 i) y 0)) := by simp only [sp_ar, hcl]; rw [if_pos ⟨hix, b6, b9⟩, if_neg (fun q => q.elim (fun z => z ((n_1 hMi.2.2.2.2.2.1).mp (Int32.not_le.mp c10))) (fun z => z.elim c11 c12)), if_pos (show F 2 i < now from Int32.not_le.mp c13), if_neg (show ¬ y = F 1 i from c15)]
                  exact W.iret (v := 1) hx hb hr (fun t ht hW => ⟨⟨_, upd Sr i z, rfl, ⟨fun _ => by rw [e_S], by rw [e_S]; exact sr_ar hSr⟩, by rw [ht, e_S]; exact hP, by rw [e_S]; exact hD⟩, hS.F ht⟩) hS.2.2 d_N_arrive_144
            · refine lv_iconst (v := 0) hx hb d_N_arrive_72 (by decide) ?_
              subst hAe
              have e_S : sp_ar (off, nm, ng, now, F, R) (nI i) y z = (0, 0, (off, nm, ng, now, F, R)) := by simp only [sp_ar, hcl]; rw [if_pos ⟨hix, b6, b9⟩, if_pos (Or.inr (Or.inr c12))]
              exact W.iret (v := 0) hx hb hr (fun t ht hW => ⟨⟨_, Sr, rfl, ⟨fun _ => by rw [e_S], by rw [e_S]; exact hSr⟩, by rw [ht, e_S]; exact hP, by rw [e_S]; exact hD⟩, hS.F ht⟩) hS.2.2 d_N_arrive_73
      · refine lv_if_eq (tgt := 31) hx hb d_N_arrive_24 (by decide) (fun _ => ?_) (fun q9 => absurd rfl q9)
        refine lv_iconst (v := 1) hx hb d_N_arrive_31 (by decide) ?_
        refine va_put (D := D) (ci := 3) (v := .int 1) (ty := .int) (C := R_N) (T := F_N) (N := 25) hx hb htw uw_N ft_N tk_N n_N hown hK hP hD hS 0 rfl rfl 0 (by decide) (htw _ k_N_74) (fun _ h9 => h9) rfl (by decide +kernel) rfl rfl (Nat.le_of_ble_eq_true rfl) d_N_arrive_32 (fun H locs hP hD hS => ?_)
        have hP : va_P D cl_L (ws_N cI r rr ra 1 Sr (off, nm, ng, now, F, R)) H := hP
        have hD : va_D A (ws_N cI r rr ra 1 Sr (off, nm, ng, now, F, R)) := hD
        refine lv_aload_n hx hb d_N_arrive_35 rfl (lv_at hl 0 rfl) ?_
        refine va_get (D := D) (C := R_N) (T := F_N) (N := 25) hx hb htw uw_N hown hK hP 0 rfl rfl 0 (by decide) (htw _ k_N_74) (fun _ h9 => h9) rfl d_N_arrive_36 ?_
        refine lv_if_gt (tgt := 72) hx hb d_N_arrive_39 (by decide) (fun _ => ?_) (fun q9 => (q9 (by decide)).elim)
        refine lv_iconst (v := 0) hx hb d_N_arrive_72 (by decide) ?_
        subst hAe
        have e_S : sp_ar (off, nm, ng, now, F, R) (nI i) y z = (1, 0, (off, nm, ng, now, F, R)) := by simp only [sp_ar]; rw [if_neg (fun q => b9 q.2.2)]
        exact W.iret (v := 0) hx hb hr (fun t ht hW => ⟨⟨_, Sr, rfl, ⟨fun _ => by rw [e_S], by rw [e_S]; exact hSr⟩, by rw [ht, e_S]; exact hP, by rw [e_S]; exact hD⟩, hS.F ht⟩) hS.2.2 d_N_arrive_73
    · refine lv_if_eq (tgt := 31) hx hb d_N_arrive_14 (by decide) (fun _ => ?_) (fun q9 => absurd rfl q9)
      refine lv_iconst (v := 1) hx hb d_N_arrive_31 (by decide) ?_
      refine va_put (D := D) (ci := 3) (v := .int 1) (ty := .int) (C := R_N) (T := F_N) (N := 25) hx hb htw uw_N ft_N tk_N n_N hown hK hP hD hS 0 rfl rfl 0 (by decide) (htw _ k_N_74) (fun _ h9 => h9) rfl (by decide +kernel) rfl rfl (Nat.le_of_ble_eq_true rfl) d_N_arrive_32 (fun H locs hP hD hS => ?_)
      have hP : va_P D cl_L (ws_N cI r rr ra 1 Sr (off, nm, ng, now, F, R)) H := hP
      have hD : va_D A (ws_N cI r rr ra 1 Sr (off, nm, ng, now, F, R)) := hD
      refine lv_aload_n hx hb d_N_arrive_35 rfl (lv_at hl 0 rfl) ?_
      refine va_get (D := D) (C := R_N) (T := F_N) (N := 25) hx hb htw uw_N hown hK hP 0 rfl rfl 0 (by decide) (htw _ k_N_74) (fun _ h9 => h9) rfl d_N_arrive_36 ?_
      refine lv_if_gt (tgt := 72) hx hb d_N_arrive_39 (by decide) (fun _ => ?_) (fun q9 => (q9 (by decide)).elim)
      refine lv_iconst (v := 0) hx hb d_N_arrive_72 (by decide) ?_
      subst hAe
      have e_S : sp_ar (off, nm, ng, now, F, R) (nI i) y z = (1, 0, (off, nm, ng, now, F, R)) := by simp only [sp_ar]; rw [if_neg (fun q => b6 q.2.1)]
      exact W.iret (v := 0) hx hb hr (fun t ht hW => ⟨⟨_, Sr, rfl, ⟨fun _ => by rw [e_S], by rw [e_S]; exact hSr⟩, by rw [ht, e_S]; exact hP, by rw [e_S]; exact hD⟩, hS.F ht⟩) hS.2.2 d_N_arrive_73
  · refine lv_if_eq (tgt := 31) hx hb d_N_arrive_6 (by decide) (fun _ => ?_) (fun q9 => absurd rfl q9)
    refine lv_iconst (v := 1) hx hb d_N_arrive_31 (by decide) ?_
    refine va_put (D := D) (ci := 3) (v := .int 1) (ty := .int) (C := R_N) (T := F_N) (N := 25) hx hb htw uw_N ft_N tk_N n_N hown hK hP hD hS 0 rfl rfl 0 (by decide) (htw _ k_N_74) (fun _ h9 => h9) rfl (by decide +kernel) rfl rfl (Nat.le_of_ble_eq_true rfl) d_N_arrive_32 (fun H locs hP hD hS => ?_)
    have hP : va_P D cl_L (ws_N cI r rr ra 1 Sr (off, nm, ng, now, F, R)) H := hP
    have hD : va_D A (ws_N cI r rr ra 1 Sr (off, nm, ng, now, F, R)) := hD
    refine lv_aload_n hx hb d_N_arrive_35 rfl (lv_at hl 0 rfl) ?_
    refine va_get (D := D) (C := R_N) (T := F_N) (N := 25) hx hb htw uw_N hown hK hP 0 rfl rfl 0 (by decide) (htw _ k_N_74) (fun _ h9 => h9) rfl d_N_arrive_36 ?_
    refine lv_if_gt (tgt := 72) hx hb d_N_arrive_39 (by decide) (fun _ => ?_) (fun q9 => (q9 (by decide)).elim)
    refine lv_iconst (v := 0) hx hb d_N_arrive_72 (by decide) ?_
    subst hAe
    have e_S : sp_ar (off, nm, ng, now, F, R) x y z = (1, 0, (off, nm, ng, now, F, R)) := by simp only [sp_ar]; rw [if_neg (fun q => b3 q.1)]
    exact W.iret (v := 0) hx hb hr (fun t ht hW => ⟨⟨_, Sr, rfl, ⟨fun _ => by rw [e_S], by rw [e_S]; exact hSr⟩, by rw [ht, e_S]; exact hP, by rw [e_S]; exact hD⟩, hS.F ht⟩) hS.2.2 d_N_arrive_73
set_option maxHeartbeats 4000000 in
set_option maxRecDepth 100000 in
theorem t_N_control (l : Launch) (D : va_G) (cM cG cI cJ : ClassId) (r rr : Nat) (ra : Nat → Nat) (th : Int32) (Sr : Nat → Int32) (off : Int32) (nm ng : Nat) (now : Int32) (F : Nat → Nat → Int32) (R : Nat → Int32) (sz : Nat) (x : Int32) (y : Int32) (t9 : Nat) (hI : iv_S t9 (off, nm, ng, now, F, R)) (hSr : sr_P Sr (off, nm, ng, now, F, R)) : Met l y_N_control (Cond.code y_N_control c_N_control 3 (some .int) :: tw_L) ({ frames := 2, cells := 0, slots := 0, locals := 48 } : Room) (mu_P D (ws_N cI r rr ra th Sr (off, nm, ng, now, F, R)) sz (fun _ _ => True) (yt_P D cM cG cI cJ) [.ref r, .int x, .int y]) (va_Qi (fun (v : Int32) (S1 : Nat → Int32) => ((sp_co (off, nm, ng, now, F, R) x y).1 = 0 → v = (sp_co (off, nm, ng, now, F, R) x y).2.1) ∧ sr_P S1 (sp_co (off, nm, ng, now, F, R) x y).2.2) (mu_B D (ws_N cI r rr ra th Sr (off, nm, ng, now, F, R)) sz (fun S1 => ws_N cI r rr ra (sp_co (off, nm, ng, now, F, R) x y).1 S1 (sp_co (off, nm, ng, now, F, R) x y).2.2)) (va_A (ws_N cI r rr ra th Sr (off, nm, ng, now, F, R)) sz)) 0 0 (va_A (ws_N cI r rr ra th Sr (off, nm, ng, now, F, R)) sz) := by
  refine Met.ofW (cc := c_N_control) (maxL := 3) (ret := (some .int)) (by decide) rfl ?_
  intro p e s m args below meth c s₁ B hml hv
  obtain ⟨rfl, hsz, hP, hD0, hX, hY⟩ := hv
  have hx := B.exec
  have hb := B.bytes
  have hr := B.returns
  have htw : ∀ w ∈ tw_L, w.before _ s = true := fun w hw => atoms_spec (ws := (Cond.code y_N_control c_N_control 3 (some .int) :: tw_L)) B.pre w (List.mem_cons_of_mem _ hw)
  have hown : s.vm.findClass R_N = some m.cls := findClass_of_methodNamed B.named
  have hlocks := B.notSynchronized
  have hC : CallFix p m c c_N_control 3 s _ tw_L R_N := ⟨hx, hb, hml, hown, htw⟩
  have hK := hY.1
  have hl := lv_entry ([.ref r, .int x, .int y]) (n := 3) (Nat.le_of_ble_eq_true rfl)
  rw [lg_entry_eq]
  generalize (lg_sl ([.ref r, .int x, .int y]) ++ List.replicate (3 - (lg_sl ([.ref r, .int x, .int y])).length) Slot.unset).toArray = ls at hl ⊢
  have hl : lv_has ls 3 [(0, .ref r), (1, .int x), (2, .int y)] := hl
  subst hsz
  obtain ⟨A, hAe⟩ : ∃ A : Nat → Prop, A = va_A (ws_N cI r rr ra th Sr (off, nm, ng, now, F, R)) s.heap.size := ⟨_, rfl⟩
  have hD : va_D A (ws_N cI r rr ra th Sr (off, nm, ng, now, F, R)) := by rw [hAe]; exact hD0.self
  have hA : ∀ q : Nat, s.heap.size ≤ q → A q := fun q h => by rw [hAe]; exact Or.inr h
  have hS : va_S A s.heap s.heap [] := va_S.rf
  obtain ⟨hof, hn20, hnow, ht4, hM, hZ, hG, hcn⟩ := id hI
  have hg200 : ng ≤ 200 := by have := cn_0 hM hcn; omega
  refine lv_aload_n hx hb d_N_control_0 rfl (lv_at hl 0 rfl) ?_
  refine lv_aload_n hx hb d_N_control_1 rfl (lv_at hl 0 rfl) ?_
  refine lv_iload_n hx hb d_N_control_2 rfl (lv_at hl 1 rfl) ?_
  refine cp_V (n := 1) [.int x] hC (t_N_isMovement l D cM cG cI cJ r rr ra th Sr off nm ng now F R x) ⟨kc_N_isMovement, kn_N, k_N_100, ki_N_isMovement, kv_N_isMovement⟩ (by decide +kernel) ⟨rfl, rfl, Nat.le_of_ble_eq_true rfl, Nat.le_of_ble_eq_true rfl⟩ x_0 (yt_Y D cM cG cI cJ) hY hP (va_recv hK hP (ci := 3) (q0 := 0) rfl rfl) rfl hl.1 rfl (Nat.le_of_ble_eq_true rfl) d_N_control_3 ⟨Nat.le_of_ble_eq_true rfl, Nat.le_of_ble_eq_true rfl⟩ (fun r1 h2 => ?_)
  rcases h2 with ⟨rfl, b3⟩ | ⟨rfl, b3⟩
  · obtain ⟨i, hi, rfl⟩ := ix_of (show nm < 2147483648 by omega) b3
    have hix := b3
    have hcl : (nI i).toNatClampNeg = i := nI_clamp (by omega)
    have hMi := hM i hi
    have hi20 : i < 20 := by omega
    refine lv_if_eq (tgt := 24) hx hb d_N_control_6 (by decide) (fun q9 => absurd q9 (by decide)) (fun _ => ?_)
    refine lv_iload_n hx hb d_N_control_9 rfl (lv_at hl 2 rfl) ?_
    refine lv_iconst (v := 0) hx hb d_N_control_10 (by decide) ?_
    refine lv_sipush (v := 1000) hx hb d_N_control_11 (by decide) ?_
    refine cp_S (n := 3) [.int y, .int 0, .int 1000] hC (t_N_in l D cM cG cI cJ y 0 1000) ⟨kc_N_in, kn_N, k_N_90, ks_N_in⟩ (by decide +kernel) ⟨rfl, rfl, Nat.le_of_ble_eq_true rfl, Nat.le_of_ble_eq_true rfl⟩ x_0 (yt_Y D cM cG cI cJ) hY trivial rfl hl.1 rfl (Nat.le_of_ble_eq_true rfl) d_N_control_14 ⟨Nat.le_of_ble_eq_true rfl, Nat.le_of_ble_eq_true rfl⟩ (fun r4 h5 => ?_)
    rcases h5 with ⟨rfl, b6⟩ | ⟨rfl, b6⟩
    · refine lv_if_eq (tgt := 24) hx hb d_N_control_17 (by decide) (fun q9 => absurd q9 (by decide)) (fun _ => ?_)
      refine lv_iconst (v := 0) hx hb d_N_control_20 (by decide) ?_
      refine lv_goto (tgt := 25) hx hb d_N_control_21 (by decide) ?_
      refine va_put (D := D) (ci := 3) (v := .int 0) (ty := .int) (C := R_N) (T := F_N) (N := 25) hx hb htw uw_N ft_N tk_N n_N hown hK hP hD hS 0 rfl rfl 0 (by decide) (htw _ k_N_74) (fun _ h9 => h9) rfl (by decide +kernel) rfl rfl (Nat.le_of_ble_eq_true rfl) d_N_control_25 (fun H locs hP hD hS => ?_)
      have hP : va_P D cl_L (ws_N cI r rr ra 0 Sr (off, nm, ng, now, F, R)) H := hP
      have hD : va_D A (ws_N cI r rr ra 0 Sr (off, nm, ng, now, F, R)) := hD
      refine lv_aload_n hx hb d_N_control_28 rfl (lv_at hl 0 rfl) ?_
      refine va_get (D := D) (C := R_N) (T := F_N) (N := 25) hx hb htw uw_N hown hK hP 0 rfl rfl 0 (by decide) (htw _ k_N_74) (fun _ h9 => h9) rfl d_N_control_29 ?_
      refine lv_if_gt (tgt := 53) hx hb d_N_control_32 (by decide) (fun q9 => absurd q9 (by decide)) (fun _ => ?_)
      refine lv_aload_n hx hb d_N_control_35 rfl (lv_at hl 0 rfl) ?_
      refine va_get (D := D) (C := R_N) (T := F_N) (N := 25) hx hb htw uw_N hown hK hP 0 rfl rfl 11 (by decide) (htw _ k_N_28) (fun _ h9 => h9) rfl d_N_control_36 ?_
      refine lv_iload_n hx hb d_N_control_39 rfl (lv_at hl 1 rfl) ?_
      refine ar_ld hx hb hK hP 8 2 rfl rfl hi20 (by decide) d_N_control_40 ?_
      refine lv_if_lt (tgt := 53) hx hb d_N_control_41 (by decide) (fun c7 => ?_) (fun c7 => ?_)
      · refine lv_iconst (v := 0) hx hb d_N_control_53 (by decide) ?_
        subst hAe
        have e_S : sp_co (off, nm, ng, now, F, R) (nI i) y = (0, 0, (off, nm, ng, now, F, R)) := by simp only [sp_co, hcl]; rw [if_pos ⟨hix, b6⟩, if_pos (Or.inl ((n_1 hMi.2.2.2.2.2.1).mp c7))]
        exact W.iret (v := 0) hx hb hr (fun t ht hW => ⟨⟨_, Sr, rfl, ⟨fun _ => by rw [e_S], by rw [e_S]; exact hSr⟩, by rw [ht, e_S]; exact hP, by rw [e_S]; exact hD⟩, hS.F ht⟩) hS.2.2 d_N_control_54
      · refine lv_aload_n hx hb d_N_control_44 rfl (lv_at hl 0 rfl) ?_
        refine va_get (D := D) (C := R_N) (T := F_N) (N := 25) hx hb htw uw_N hown hK hP 0 rfl rfl 14 (by decide) (htw _ k_N_37) (fun _ h9 => h9) rfl d_N_control_45 ?_
        refine lv_iload_n hx hb d_N_control_48 rfl (lv_at hl 1 rfl) ?_
        refine ar_ld hx hb hK hP 11 2 rfl rfl hi20 (by decide) d_N_control_49 ?_
        refine lv_if_lt (tgt := 55) hx hb d_N_control_50 (by decide) (fun c8 => ?_) (fun c8 => ?_)
        · refine lv_aload_n hx hb d_N_control_55 rfl (lv_at hl 0 rfl) ?_
          refine va_get (D := D) (C := R_N) (T := F_N) (N := 25) hx hb htw uw_N hown hK hP 0 rfl rfl 14 (by decide) (htw _ k_N_37) (fun _ h9 => h9) rfl d_N_control_56 ?_
          refine lv_iload_n hx hb d_N_control_59 rfl (lv_at hl 1 rfl) ?_
          refine lv_iload_n hx hb d_N_control_60 rfl (lv_at hl 2 rfl) ?_
          refine ar_st hx hb hK hP hD hS 11 2 rfl rfl hi20 (by decide) d_N_control_61 (fun H locs hP hD hS => ?_)
          have hP : va_P D cl_L (ws_N cI r rr ra 0 Sr (off, nm, ng, now, up_F F 9 i y, R)) H := hP
          have hD : va_D A (ws_N cI r rr ra 0 Sr (off, nm, ng, now, up_F F 9 i y, R)) := hD
          refine lv_aload_n hx hb d_N_control_62 rfl (lv_at hl 0 rfl) ?_
          refine lv_iload_n hx hb d_N_control_63 rfl (lv_at hl 1 rfl) ?_
          have hF9 := wk_F hD hS hA
          refine cm_V (n := 1) [.int (nI i)] hC (t_N_tellResult l D cM cG cI cJ r rr ra 0 Sr off nm ng now (up_F F 9 i y) R _ i hi20 (show ng < 400 by omega)) ⟨kc_N_tellResult, kn_N, k_N_107, ki_N_tellResult, kv_N_tellResult⟩ (by decide +kernel) ⟨rfl, rfl, Nat.le_of_ble_eq_true rfl, Nat.le_of_ble_eq_true rfl⟩ x_0 (yt_Y D cM cG cI cJ) hY trivial (va_recv hK hP (ci := 3) (q0 := 0) rfl rfl) hP (wk_T hD) hS hF9 rfl hl.1 rfl (Nat.le_of_ble_eq_true rfl) d_N_control_64 ⟨Nat.le_of_ble_eq_true rfl, Nat.le_of_ble_eq_true rfl⟩ (fun _ H locs _ hP1 hD1 hz9 hk9 hS => ?_)
          have e_R9 : sn_R R ng 3 (nI i) ((up_F F 9 i y) 6 i) ((up_F F 9 i y) 0 i) ((up_F F 9 i y) 9 i) (Sr i) = sn_R R ng 3 (nI i) (F 6 i) (F 0 i) y (F 7 i) := by rw [hSr i hi (fun q => c7 ((n_1 hMi.2.2.2.2.2.1).mpr q))]; simp [up_at]
          rw [e_R9] at hP1 hD1
          have hP : va_P D cl_L (ws_N cI r rr ra 0 Sr (off, nm, ng + 1, now, up_F F 9 i y, sn_R R ng 3 (nI i) (F 6 i) (F 0 i) y (F 7 i))) H := hP1
          have hD : va_D A (ws_N cI r rr ra 0 Sr (off, nm, ng + 1, now, up_F F 9 i y, sn_R R ng 3 (nI i) (F 6 i) (F 0 i) y (F 7 i))) := wk_D hD1 hF9
          refine lv_iconst (v := 1) hx hb d_N_control_67 (by decide) ?_
          subst hAe
          have e_S : sp_co (off, nm, ng, now, F, R) (nI i) y = (0, 1, (off, nm, ng + 1, now, up_F F 9 i y, sn_R R ng 3 (nI i) (F 6 i) (F 0 i) y (F 7 i))) := by simp only [sp_co, hcl]; rw [if_pos ⟨hix, b6⟩, if_neg (fun q => q.elim (fun z => c7 ((n_1 hMi.2.2.2.2.2.1).mpr z)) (fun z => z ((n_1 hMi.2.2.2.2.2.2.2.2.1).mp c8)))]
          exact W.iret (v := 1) hx hb hr (fun t ht hW => ⟨⟨_, Sr, rfl, ⟨fun _ => by rw [e_S], by rw [e_S]; exact hSr⟩, by rw [ht, e_S]; exact hP, by rw [e_S]; exact hD⟩, hS.F ht⟩) hS.2.2 d_N_control_68
        · refine lv_iconst (v := 0) hx hb d_N_control_53 (by decide) ?_
          subst hAe
          have e_S : sp_co (off, nm, ng, now, F, R) (nI i) y = (0, 0, (off, nm, ng, now, F, R)) := by simp only [sp_co, hcl]; rw [if_pos ⟨hix, b6⟩, if_pos (Or.inr (fun q => c8 ((n_1 hMi.2.2.2.2.2.2.2.2.1).mpr q)))]
          exact W.iret (v := 0) hx hb hr (fun t ht hW => ⟨⟨_, Sr, rfl, ⟨fun _ => by rw [e_S], by rw [e_S]; exact hSr⟩, by rw [ht, e_S]; exact hP, by rw [e_S]; exact hD⟩, hS.F ht⟩) hS.2.2 d_N_control_54
    · refine lv_if_eq (tgt := 24) hx hb d_N_control_17 (by decide) (fun _ => ?_) (fun q9 => absurd rfl q9)
      refine lv_iconst (v := 1) hx hb d_N_control_24 (by decide) ?_
      refine va_put (D := D) (ci := 3) (v := .int 1) (ty := .int) (C := R_N) (T := F_N) (N := 25) hx hb htw uw_N ft_N tk_N n_N hown hK hP hD hS 0 rfl rfl 0 (by decide) (htw _ k_N_74) (fun _ h9 => h9) rfl (by decide +kernel) rfl rfl (Nat.le_of_ble_eq_true rfl) d_N_control_25 (fun H locs hP hD hS => ?_)
      have hP : va_P D cl_L (ws_N cI r rr ra 1 Sr (off, nm, ng, now, F, R)) H := hP
      have hD : va_D A (ws_N cI r rr ra 1 Sr (off, nm, ng, now, F, R)) := hD
      refine lv_aload_n hx hb d_N_control_28 rfl (lv_at hl 0 rfl) ?_
      refine va_get (D := D) (C := R_N) (T := F_N) (N := 25) hx hb htw uw_N hown hK hP 0 rfl rfl 0 (by decide) (htw _ k_N_74) (fun _ h9 => h9) rfl d_N_control_29 ?_
      refine lv_if_gt (tgt := 53) hx hb d_N_control_32 (by decide) (fun _ => ?_) (fun q9 => (q9 (by decide)).elim)
      refine lv_iconst (v := 0) hx hb d_N_control_53 (by decide) ?_
      subst hAe
      have e_S : sp_co (off, nm, ng, now, F, R) (nI i) y = (1, 0, (off, nm, ng, now, F, R)) := by simp only [sp_co]; rw [if_neg (fun q => b6 q.2)]
      exact W.iret (v := 0) hx hb hr (fun t ht hW => ⟨⟨_, Sr, rfl, ⟨fun _ => by rw [e_S], by rw [e_S]; exact hSr⟩, by rw [ht, e_S]; exact hP, by rw [e_S]; exact hD⟩, hS.F ht⟩) hS.2.2 d_N_control_54
  · refine lv_if_eq (tgt := 24) hx hb d_N_control_6 (by decide) (fun _ => ?_) (fun q9 => absurd rfl q9)
    refine lv_iconst (v := 1) hx hb d_N_control_24 (by decide) ?_
    refine va_put (D := D) (ci := 3) (v := .int 1) (ty := .int) (C := R_N) (T := F_N) (N := 25) hx hb htw uw_N ft_N tk_N n_N hown hK hP hD hS 0 rfl rfl 0 (by decide) (htw _ k_N_74) (fun _ h9 => h9) rfl (by decide +kernel) rfl rfl (Nat.le_of_ble_eq_true rfl) d_N_control_25 (fun H locs hP hD hS => ?_)
    have hP : va_P D cl_L (ws_N cI r rr ra 1 Sr (off, nm, ng, now, F, R)) H := hP
    have hD : va_D A (ws_N cI r rr ra 1 Sr (off, nm, ng, now, F, R)) := hD
    refine lv_aload_n hx hb d_N_control_28 rfl (lv_at hl 0 rfl) ?_
    refine va_get (D := D) (C := R_N) (T := F_N) (N := 25) hx hb htw uw_N hown hK hP 0 rfl rfl 0 (by decide) (htw _ k_N_74) (fun _ h9 => h9) rfl d_N_control_29 ?_
    refine lv_if_gt (tgt := 53) hx hb d_N_control_32 (by decide) (fun _ => ?_) (fun q9 => (q9 (by decide)).elim)
    refine lv_iconst (v := 0) hx hb d_N_control_53 (by decide) ?_
    subst hAe
    have e_S : sp_co (off, nm, ng, now, F, R) x y = (1, 0, (off, nm, ng, now, F, R)) := by simp only [sp_co]; rw [if_neg (fun q => b3 q.1)]
    exact W.iret (v := 0) hx hb hr (fun t ht hW => ⟨⟨_, Sr, rfl, ⟨fun _ => by rw [e_S], by rw [e_S]; exact hSr⟩, by rw [ht, e_S]; exact hP, by rw [e_S]; exact hD⟩, hS.F ht⟩) hS.2.2 d_N_control_54
set_option maxHeartbeats 4000000 in
set_option maxRecDepth 100000 in
theorem t_N_receive (l : Launch) (D : va_G) (cM cG cI cJ : ClassId) (r rr : Nat) (ra : Nat → Nat) (th : Int32) (Sr : Nat → Int32) (off : Int32) (nm ng : Nat) (now : Int32) (F : Nat → Nat → Int32) (R : Nat → Int32) (sz : Nat) (y : Int32) (x : Int32) (t9 : Nat) (hI : iv_S t9 (off, nm, ng, now, F, R)) (hSr : sr_P Sr (off, nm, ng, now, F, R)) : Met l y_N_receive (Cond.code y_N_receive c_N_receive 3 (some .int) :: tw_L) ({ frames := 3, cells := 0, slots := 0, locals := 71 } : Room) (mu_P D (ws_N cI r rr ra th Sr (off, nm, ng, now, F, R)) sz (fun _ _ => True) (yt_P D cM cG cI cJ) [.ref r, .int y, .int x]) (va_Qi (fun (v : Int32) (S1 : Nat → Int32) => ((sp_re (off, nm, ng, now, F, R) y x).1 = 0 → v = (sp_re (off, nm, ng, now, F, R) y x).2.1) ∧ sr_P S1 (sp_re (off, nm, ng, now, F, R) y x).2.2) (mu_B D (ws_N cI r rr ra th Sr (off, nm, ng, now, F, R)) sz (fun S1 => ws_N cI r rr ra (sp_re (off, nm, ng, now, F, R) y x).1 S1 (sp_re (off, nm, ng, now, F, R) y x).2.2)) (va_A (ws_N cI r rr ra th Sr (off, nm, ng, now, F, R)) sz)) 0 0 (va_A (ws_N cI r rr ra th Sr (off, nm, ng, now, F, R)) sz) := by
  refine Met.ofW (cc := c_N_receive) (maxL := 3) (ret := (some .int)) (by decide) rfl ?_
  intro p e s m args below meth c s₁ B hml hv
  obtain ⟨rfl, hsz, hP, hD0, hX, hY⟩ := hv
  have hx := B.exec
  have hb := B.bytes
  have hr := B.returns
  have htw : ∀ w ∈ tw_L, w.before _ s = true := fun w hw => atoms_spec (ws := (Cond.code y_N_receive c_N_receive 3 (some .int) :: tw_L)) B.pre w (List.mem_cons_of_mem _ hw)
  have hown : s.vm.findClass R_N = some m.cls := findClass_of_methodNamed B.named
  have hlocks := B.notSynchronized
  have hC : CallFix p m c c_N_receive 3 s _ tw_L R_N := ⟨hx, hb, hml, hown, htw⟩
  have hK := hY.1
  have hl := lv_entry ([.ref r, .int y, .int x]) (n := 3) (Nat.le_of_ble_eq_true rfl)
  rw [lg_entry_eq]
  generalize (lg_sl ([.ref r, .int y, .int x]) ++ List.replicate (3 - (lg_sl ([.ref r, .int y, .int x])).length) Slot.unset).toArray = ls at hl ⊢
  have hl : lv_has ls 3 [(0, .ref r), (1, .int y), (2, .int x)] := hl
  subst hsz
  obtain ⟨A, hAe⟩ : ∃ A : Nat → Prop, A = va_A (ws_N cI r rr ra th Sr (off, nm, ng, now, F, R)) s.heap.size := ⟨_, rfl⟩
  have hD : va_D A (ws_N cI r rr ra th Sr (off, nm, ng, now, F, R)) := by rw [hAe]; exact hD0.self
  have hA : ∀ q : Nat, s.heap.size ≤ q → A q := fun q h => by rw [hAe]; exact Or.inr h
  have hS : va_S A s.heap s.heap [] := va_S.rf
  obtain ⟨hof, hn20, hnow, ht4, hM, hZ, hG, hcn⟩ := id hI
  have hg200 : ng ≤ 200 := by have := cn_0 hM hcn; omega
  refine lv_aload_n hx hb d_N_receive_0 rfl (lv_at hl 0 rfl) ?_
  refine lv_aload_n hx hb d_N_receive_1 rfl (lv_at hl 0 rfl) ?_
  refine lv_iload_n hx hb d_N_receive_2 rfl (lv_at hl 1 rfl) ?_
  refine cp_V (n := 1) [.int y] hC (t_N_isOffice l D cM cG cI cJ r rr ra th Sr off nm ng now F R y) ⟨kc_N_isOffice, kn_N, k_N_83, ki_N_isOffice, kv_N_isOffice⟩ (by decide +kernel) ⟨rfl, rfl, Nat.le_of_ble_eq_true rfl, Nat.le_of_ble_eq_true rfl⟩ x_0 (yt_Y D cM cG cI cJ) hY hP (va_recv hK hP (ci := 3) (q0 := 0) rfl rfl) rfl hl.1 rfl (Nat.le_of_ble_eq_true rfl) d_N_receive_3 ⟨Nat.le_of_ble_eq_true rfl, Nat.le_of_ble_eq_true rfl⟩ (fun r1 h2 => ?_)
  rcases h2 with ⟨rfl, b3⟩ | ⟨rfl, b3⟩
  · refine lv_if_eq (tgt := 25) hx hb d_N_receive_6 (by decide) (fun q9 => absurd q9 (by decide)) (fun _ => ?_)
    refine lv_iload_n hx hb d_N_receive_9 rfl (lv_at hl 2 rfl) ?_
    refine lv_if_lt (tgt := 25) hx hb d_N_receive_10 (by decide) (fun c4 => ?_) (fun c4 => ?_)
    · refine lv_iconst (v := 1) hx hb d_N_receive_25 (by decide) ?_
      refine va_put (D := D) (ci := 3) (v := .int 1) (ty := .int) (C := R_N) (T := F_N) (N := 25) hx hb htw uw_N ft_N tk_N n_N hown hK hP hD hS 0 rfl rfl 0 (by decide) (htw _ k_N_74) (fun _ h9 => h9) rfl (by decide +kernel) rfl rfl (Nat.le_of_ble_eq_true rfl) d_N_receive_26 (fun H locs hP hD hS => ?_)
      have hP : va_P D cl_L (ws_N cI r rr ra 1 Sr (off, nm, ng, now, F, R)) H := hP
      have hD : va_D A (ws_N cI r rr ra 1 Sr (off, nm, ng, now, F, R)) := hD
      refine lv_aload_n hx hb d_N_receive_29 rfl (lv_at hl 0 rfl) ?_
      refine va_get (D := D) (C := R_N) (T := F_N) (N := 25) hx hb htw uw_N hown hK hP 0 rfl rfl 0 (by decide) (htw _ k_N_74) (fun _ h9 => h9) rfl d_N_receive_30 ?_
      refine lv_if_gt (tgt := 66) hx hb d_N_receive_33 (by decide) (fun _ => ?_) (fun q9 => (q9 (by decide)).elim)
      refine lv_iconst (v := 0) hx hb d_N_receive_66 (by decide) ?_
      subst hAe
      have e_S : sp_re (off, nm, ng, now, F, R) y x = (1, 0, (off, nm, ng, now, F, R)) := by simp only [sp_re]; rw [if_neg (fun q => q.2.1 c4)]
      exact W.iret (v := 0) hx hb hr (fun t ht hW => ⟨⟨_, Sr, rfl, ⟨fun _ => by rw [e_S], by rw [e_S]; exact hSr⟩, by rw [ht, e_S]; exact hP, by rw [e_S]; exact hD⟩, hS.F ht⟩) hS.2.2 d_N_receive_67
    · refine lv_iload_n hx hb d_N_receive_13 rfl (lv_at hl 2 rfl) ?_
      refine lv_aload_n hx hb d_N_receive_14 rfl (lv_at hl 0 rfl) ?_
      refine va_get (D := D) (C := R_N) (T := F_N) (N := 25) hx hb htw uw_N hown hK hP 0 rfl rfl 3 (by decide) (htw _ k_N_80) (fun _ h9 => h9) rfl d_N_receive_15 ?_
      refine lv_icmp_ge (tgt := 25) hx hb d_N_receive_18 (by decide) (fun c5 => ?_) (fun c5 => ?_)
      · refine lv_iconst (v := 1) hx hb d_N_receive_25 (by decide) ?_
        refine va_put (D := D) (ci := 3) (v := .int 1) (ty := .int) (C := R_N) (T := F_N) (N := 25) hx hb htw uw_N ft_N tk_N n_N hown hK hP hD hS 0 rfl rfl 0 (by decide) (htw _ k_N_74) (fun _ h9 => h9) rfl (by decide +kernel) rfl rfl (Nat.le_of_ble_eq_true rfl) d_N_receive_26 (fun H locs hP hD hS => ?_)
        have hP : va_P D cl_L (ws_N cI r rr ra 1 Sr (off, nm, ng, now, F, R)) H := hP
        have hD : va_D A (ws_N cI r rr ra 1 Sr (off, nm, ng, now, F, R)) := hD
        refine lv_aload_n hx hb d_N_receive_29 rfl (lv_at hl 0 rfl) ?_
        refine va_get (D := D) (C := R_N) (T := F_N) (N := 25) hx hb htw uw_N hown hK hP 0 rfl rfl 0 (by decide) (htw _ k_N_74) (fun _ h9 => h9) rfl d_N_receive_30 ?_
        refine lv_if_gt (tgt := 66) hx hb d_N_receive_33 (by decide) (fun _ => ?_) (fun q9 => (q9 (by decide)).elim)
        refine lv_iconst (v := 0) hx hb d_N_receive_66 (by decide) ?_
        subst hAe
        have e_S : sp_re (off, nm, ng, now, F, R) y x = (1, 0, (off, nm, ng, now, F, R)) := by simp only [sp_re]; rw [if_neg (fun q => absurd q.2.2 (Int32.not_lt.mpr c5))]
        exact W.iret (v := 0) hx hb hr (fun t ht hW => ⟨⟨_, Sr, rfl, ⟨fun _ => by rw [e_S], by rw [e_S]; exact hSr⟩, by rw [ht, e_S]; exact hP, by rw [e_S]; exact hD⟩, hS.F ht⟩) hS.2.2 d_N_receive_67
      · have hixj := (show is_ix ng x from ⟨c4, Int32.not_le.mp c5⟩)
        obtain ⟨g, hg, rfl⟩ := ix_of (show ng < 2147483648 by omega) hixj
        have hclj : (nI g).toNatClampNeg = g := nI_clamp (by omega)
        refine lv_iconst (v := 0) hx hb d_N_receive_21 (by decide) ?_
        refine lv_goto (tgt := 26) hx hb d_N_receive_22 (by decide) ?_
        refine va_put (D := D) (ci := 3) (v := .int 0) (ty := .int) (C := R_N) (T := F_N) (N := 25) hx hb htw uw_N ft_N tk_N n_N hown hK hP hD hS 0 rfl rfl 0 (by decide) (htw _ k_N_74) (fun _ h9 => h9) rfl (by decide +kernel) rfl rfl (Nat.le_of_ble_eq_true rfl) d_N_receive_26 (fun H locs hP hD hS => ?_)
        have hP : va_P D cl_L (ws_N cI r rr ra 0 Sr (off, nm, ng, now, F, R)) H := hP
        have hD : va_D A (ws_N cI r rr ra 0 Sr (off, nm, ng, now, F, R)) := hD
        refine lv_aload_n hx hb d_N_receive_29 rfl (lv_at hl 0 rfl) ?_
        refine va_get (D := D) (C := R_N) (T := F_N) (N := 25) hx hb htw uw_N hown hK hP 0 rfl rfl 0 (by decide) (htw _ k_N_74) (fun _ h9 => h9) rfl d_N_receive_30 ?_
        refine lv_if_gt (tgt := 66) hx hb d_N_receive_33 (by decide) (fun q9 => absurd q9 (by decide)) (fun _ => ?_)
        refine lv_aload_n hx hb d_N_receive_36 rfl (lv_at hl 0 rfl) ?_
        refine va_get (D := D) (C := R_N) (T := F_N) (N := 25) hx hb htw uw_N hown hK hP 0 rfl rfl 24 (by decide) (htw _ k_N_67) (fun _ h9 => h9) rfl d_N_receive_37 ?_
        refine lv_bipush (v := 7) hx hb d_N_receive_40 (by decide) ?_
        refine lv_iload_n hx hb d_N_receive_42 rfl (lv_at hl 2 rfl) ?_
        refine lv_imul hx hb d_N_receive_43 ?_
        refine sk_as (y := nI (7 * g)) (pk_mul 7 g) ?_
        refine lv_bipush (v := 6) hx hb d_N_receive_44 (by decide) ?_
        refine lv_iadd hx hb d_N_receive_46 ?_
        refine sk_as (y := nI (7 * g + 6)) (nI_add (7 * g) 6) ?_
        refine ar_ld hx hb hK hP 1 2 rfl rfl (show 7 * g + 6 < 2800 by omega) (by decide) d_N_receive_47 ?_
        refine lv_if_ne (tgt := 66) hx hb d_N_receive_48 (by decide) (fun c6 => ?_) (fun c6 => ?_)
        · refine lv_iconst (v := 0) hx hb d_N_receive_66 (by decide) ?_
          subst hAe
          have e_S : sp_re (off, nm, ng, now, F, R) y (nI g) = (0, 0, (off, nm, ng, now, F, R)) := by simp only [sp_re, hclj]; rw [if_pos ⟨b3, hixj⟩, if_pos (Or.inl c6)]
          exact W.iret (v := 0) hx hb hr (fun t ht hW => ⟨⟨_, Sr, rfl, ⟨fun _ => by rw [e_S], by rw [e_S]; exact hSr⟩, by rw [ht, e_S]; exact hP, by rw [e_S]; exact hD⟩, hS.F ht⟩) hS.2.2 d_N_receive_67
        · refine lv_aload_n hx hb d_N_receive_51 rfl (lv_at hl 0 rfl) ?_
          refine va_get (D := D) (C := R_N) (T := F_N) (N := 25) hx hb htw uw_N hown hK hP 0 rfl rfl 24 (by decide) (htw _ k_N_67) (fun _ h9 => h9) rfl d_N_receive_52 ?_
          refine lv_bipush (v := 7) hx hb d_N_receive_55 (by decide) ?_
          refine lv_iload_n hx hb d_N_receive_57 rfl (lv_at hl 2 rfl) ?_
          refine lv_imul hx hb d_N_receive_58 ?_
          refine sk_as (y := nI (7 * g)) (pk_mul 7 g) ?_
          refine lv_iconst (v := 3) hx hb d_N_receive_59 (by decide) ?_
          refine lv_iadd hx hb d_N_receive_60 ?_
          refine sk_as (y := nI (7 * g + 3)) (nI_add (7 * g) 3) ?_
          refine ar_ld hx hb hK hP 1 2 rfl rfl (show 7 * g + 3 < 2800 by omega) (by decide) d_N_receive_61 ?_
          refine lv_iload_n hx hb d_N_receive_62 rfl (lv_at hl 1 rfl) ?_
          refine lv_icmp_eq (tgt := 68) hx hb d_N_receive_63 (by decide) (fun c7 => ?_) (fun c7 => ?_)
          · refine lv_aload_n hx hb d_N_receive_68 rfl (lv_at hl 0 rfl) ?_
            refine va_get (D := D) (C := R_N) (T := F_N) (N := 25) hx hb htw uw_N hown hK hP 0 rfl rfl 24 (by decide) (htw _ k_N_67) (fun _ h9 => h9) rfl d_N_receive_69 ?_
            refine lv_bipush (v := 7) hx hb d_N_receive_72 (by decide) ?_
            refine lv_iload_n hx hb d_N_receive_74 rfl (lv_at hl 2 rfl) ?_
            refine lv_imul hx hb d_N_receive_75 ?_
            refine sk_as (y := nI (7 * g)) (pk_mul 7 g) ?_
            refine lv_bipush (v := 6) hx hb d_N_receive_76 (by decide) ?_
            refine lv_iadd hx hb d_N_receive_78 ?_
            refine sk_as (y := nI (7 * g + 6)) (nI_add (7 * g) 6) ?_
            refine lv_iconst (v := 1) hx hb d_N_receive_79 (by decide) ?_
            refine ar_st hx hb hK hP hD hS 1 2 rfl rfl (show 7 * g + 6 < 2800 by omega) (by decide) d_N_receive_80 (fun H locs hP hD hS => ?_)
            have hP : va_P D cl_L (ws_N cI r rr ra 0 Sr (off, nm, ng, now, F, upd R (7 * g + 6) 1)) H := hP
            have hD : va_D A (ws_N cI r rr ra 0 Sr (off, nm, ng, now, F, upd R (7 * g + 6) 1)) := hD
            refine lv_aload_n hx hb d_N_receive_81 rfl (lv_at hl 0 rfl) ?_
            refine lv_bipush (v := 7) hx hb d_N_receive_82 (by decide) ?_
            refine lv_iload_n hx hb d_N_receive_84 rfl (lv_at hl 2 rfl) ?_
            refine lv_imul hx hb d_N_receive_85 ?_
            refine sk_as (y := nI (7 * g)) (pk_mul 7 g) ?_
            obtain ⟨i, hi, hxi⟩ := ix_of (show nm < 2147483648 by omega) (hG g hg).1
            have hMi := hM i hi
            have hxi1 : upd R (7 * g + 6) 1 (7 * g + 1) = nI i := by rw [upd_n (by omega)]; exact hxi
            have hF9 := wk_F hD hS hA
            refine cm_V (n := 1) [.int (nI (7 * g))] hC (t_N_read l D cM cG cI cJ r rr ra 0 Sr off nm ng now F (upd R (7 * g + 6) 1) _ g i hg (by omega) (by omega) hxi1 hMi.2.2.2.2.2.2.2.2.2.1 hMi.2.2.2.2.2.2.2.2.1 hMi.2.1.1 (fun q => hSr i hi q)) ⟨kc_N_read, kn_N, k_N_117, ki_N_read, kv_N_read⟩ (by decide +kernel) ⟨rfl, rfl, Nat.le_of_ble_eq_true rfl, Nat.le_of_ble_eq_true rfl⟩ x_0 (yt_Y D cM cG cI cJ) hY trivial (va_recv hK hP (ci := 3) (q0 := 0) rfl rfl) hP (wk_T hD) hS hF9 rfl hl.1 rfl (Nat.le_of_ble_eq_true rfl) d_N_receive_86 ⟨Nat.le_of_ble_eq_true rfl, Nat.le_of_ble_eq_true rfl⟩ (fun _ H locs _ hP1 hD1 hz9 hk9 hS => ?_)
            have hP : va_P D cl_L (ws_N cI r rr ra 0 Sr (ac_S (off, nm, ng, now, F, upd R (7 * g + 6) 1) g)) H := hP1
            have hD : va_D A (ws_N cI r rr ra 0 Sr (ac_S (off, nm, ng, now, F, upd R (7 * g + 6) 1) g)) := wk_D hD1 hF9
            refine lv_iconst (v := 1) hx hb d_N_receive_89 (by decide) ?_
            subst hAe
            have e_S : sp_re (off, nm, ng, now, F, R) y (nI g) = (0, 1, ac_S (off, nm, ng, now, F, upd R (7 * g + 6) 1) g) := by simp only [sp_re, hclj]; rw [if_pos ⟨b3, hixj⟩, if_neg (fun q => q.elim (fun z => z c6) (fun z => z c7))]
            exact W.iret (v := 1) hx hb hr (fun t ht hW => ⟨⟨_, Sr, rfl, ⟨fun _ => by rw [e_S], by rw [e_S]; exact ac_6 hSr⟩, by rw [ht, e_S]; exact hP, by rw [e_S]; exact hD⟩, hS.F ht⟩) hS.2.2 d_N_receive_90
          · refine lv_iconst (v := 0) hx hb d_N_receive_66 (by decide) ?_
            subst hAe
            have e_S : sp_re (off, nm, ng, now, F, R) y (nI g) = (0, 0, (off, nm, ng, now, F, R)) := by simp only [sp_re, hclj]; rw [if_pos ⟨b3, hixj⟩, if_pos (Or.inr c7)]
            exact W.iret (v := 0) hx hb hr (fun t ht hW => ⟨⟨_, Sr, rfl, ⟨fun _ => by rw [e_S], by rw [e_S]; exact hSr⟩, by rw [ht, e_S]; exact hP, by rw [e_S]; exact hD⟩, hS.F ht⟩) hS.2.2 d_N_receive_67
  · refine lv_if_eq (tgt := 25) hx hb d_N_receive_6 (by decide) (fun _ => ?_) (fun q9 => absurd rfl q9)
    refine lv_iconst (v := 1) hx hb d_N_receive_25 (by decide) ?_
    refine va_put (D := D) (ci := 3) (v := .int 1) (ty := .int) (C := R_N) (T := F_N) (N := 25) hx hb htw uw_N ft_N tk_N n_N hown hK hP hD hS 0 rfl rfl 0 (by decide) (htw _ k_N_74) (fun _ h9 => h9) rfl (by decide +kernel) rfl rfl (Nat.le_of_ble_eq_true rfl) d_N_receive_26 (fun H locs hP hD hS => ?_)
    have hP : va_P D cl_L (ws_N cI r rr ra 1 Sr (off, nm, ng, now, F, R)) H := hP
    have hD : va_D A (ws_N cI r rr ra 1 Sr (off, nm, ng, now, F, R)) := hD
    refine lv_aload_n hx hb d_N_receive_29 rfl (lv_at hl 0 rfl) ?_
    refine va_get (D := D) (C := R_N) (T := F_N) (N := 25) hx hb htw uw_N hown hK hP 0 rfl rfl 0 (by decide) (htw _ k_N_74) (fun _ h9 => h9) rfl d_N_receive_30 ?_
    refine lv_if_gt (tgt := 66) hx hb d_N_receive_33 (by decide) (fun _ => ?_) (fun q9 => (q9 (by decide)).elim)
    refine lv_iconst (v := 0) hx hb d_N_receive_66 (by decide) ?_
    subst hAe
    have e_S : sp_re (off, nm, ng, now, F, R) y x = (1, 0, (off, nm, ng, now, F, R)) := by simp only [sp_re]; rw [if_neg (fun q => b3 q.1)]
    exact W.iret (v := 0) hx hb hr (fun t ht hW => ⟨⟨_, Sr, rfl, ⟨fun _ => by rw [e_S], by rw [e_S]; exact hSr⟩, by rw [ht, e_S]; exact hP, by rw [e_S]; exact hD⟩, hS.F ht⟩) hS.2.2 d_N_receive_67
set_option maxHeartbeats 4000000 in
set_option maxRecDepth 100000 in
theorem t_N_lose (l : Launch) (D : va_G) (cM cG cI cJ : ClassId) (r rr : Nat) (ra : Nat → Nat) (th : Int32) (Sr : Nat → Int32) (off : Int32) (nm ng : Nat) (now : Int32) (F : Nat → Nat → Int32) (R : Nat → Int32) (sz : Nat) (x : Int32) (t9 : Nat) (hI : iv_S t9 (off, nm, ng, now, F, R)) (hSr : sr_P Sr (off, nm, ng, now, F, R)) : Met l y_N_lose (Cond.code y_N_lose c_N_lose 2 (some .boolean) :: tw_L) ({ frames := 0, cells := 0, slots := 0, locals := 0 } : Room) (mu_P D (ws_N cI r rr ra th Sr (off, nm, ng, now, F, R)) sz (fun _ _ => True) (yt_P D cM cG cI cJ) [.ref r, .int x]) (va_Qi (fun (v : Int32) (_ : Unit) => v = (sp_lo (off, nm, ng, now, F, R) x).1) (mu_B D (ws_N cI r rr ra th Sr (off, nm, ng, now, F, R)) sz (fun _ => ws_N cI r rr ra 0 Sr (sp_lo (off, nm, ng, now, F, R) x).2)) (va_A (ws_N cI r rr ra th Sr (off, nm, ng, now, F, R)) sz)) 0 0 (va_A (ws_N cI r rr ra th Sr (off, nm, ng, now, F, R)) sz) := by
  refine Met.ofW (cc := c_N_lose) (maxL := 2) (ret := (some .boolean)) (by decide) rfl ?_
  intro p e s m args below meth c s₁ B hml hv
  obtain ⟨rfl, hsz, hP, hD0, hX, hY⟩ := hv
  have hx := B.exec
  have hb := B.bytes
  have hr := B.returns
  have htw : ∀ w ∈ tw_L, w.before _ s = true := fun w hw => atoms_spec (ws := (Cond.code y_N_lose c_N_lose 2 (some .boolean) :: tw_L)) B.pre w (List.mem_cons_of_mem _ hw)
  have hown : s.vm.findClass R_N = some m.cls := findClass_of_methodNamed B.named
  have hlocks := B.notSynchronized
  have hC : CallFix p m c c_N_lose 2 s _ tw_L R_N := ⟨hx, hb, hml, hown, htw⟩
  have hK := hY.1
  have hl := lv_entry ([.ref r, .int x]) (n := 2) (Nat.le_of_ble_eq_true rfl)
  rw [lg_entry_eq]
  generalize (lg_sl ([.ref r, .int x]) ++ List.replicate (2 - (lg_sl ([.ref r, .int x])).length) Slot.unset).toArray = ls at hl ⊢
  have hl : lv_has ls 2 [(0, .ref r), (1, .int x)] := hl
  subst hsz
  obtain ⟨A, hAe⟩ : ∃ A : Nat → Prop, A = va_A (ws_N cI r rr ra th Sr (off, nm, ng, now, F, R)) s.heap.size := ⟨_, rfl⟩
  have hD : va_D A (ws_N cI r rr ra th Sr (off, nm, ng, now, F, R)) := by rw [hAe]; exact hD0.self
  have hA : ∀ q : Nat, s.heap.size ≤ q → A q := fun q h => by rw [hAe]; exact Or.inr h
  have hS : va_S A s.heap s.heap [] := va_S.rf
  obtain ⟨hof, hn20, hnow, ht4, hM, hZ, hG, hcn⟩ := id hI
  have hg200 : ng ≤ 200 := by have := cn_0 hM hcn; omega
  refine lv_aload_n hx hb d_N_lose_0 rfl (lv_at hl 0 rfl) ?_
  refine lv_iconst (v := 0) hx hb d_N_lose_1 (by decide) ?_
  refine va_put (D := D) (ci := 3) (v := .int 0) (ty := .int) (C := R_N) (T := F_N) (N := 25) hx hb htw uw_N ft_N tk_N n_N hown hK hP hD hS 0 rfl rfl 0 (by decide) (htw _ k_N_74) (fun _ h9 => h9) rfl (by decide +kernel) rfl rfl (Nat.le_of_ble_eq_true rfl) d_N_lose_2 (fun H locs hP hD hS => ?_)
  have hP : va_P D cl_L (ws_N cI r rr ra 0 Sr (off, nm, ng, now, F, R)) H := hP
  have hD : va_D A (ws_N cI r rr ra 0 Sr (off, nm, ng, now, F, R)) := hD
  refine lv_iload_n hx hb d_N_lose_5 rfl (lv_at hl 1 rfl) ?_
  refine lv_if_lt (tgt := 32) hx hb d_N_lose_6 (by decide) (fun c1 => ?_) (fun c1 => ?_)
  · refine lv_iconst (v := 0) hx hb d_N_lose_32 (by decide) ?_
    subst hAe
    have e_S : sp_lo (off, nm, ng, now, F, R) x = (0, (off, nm, ng, now, F, R)) := by simp only [sp_lo]; rw [if_neg (fun q => q.1.1 c1)]
    exact W.zret (v := 0) hx hb hr (by decide) (fun t ht hW => ⟨⟨_, (), rfl, by rw [e_S], by rw [ht, e_S]; exact hP, by rw [e_S]; exact hD⟩, hS.F ht⟩) hS.2.2 d_N_lose_33
  · refine lv_iload_n hx hb d_N_lose_9 rfl (lv_at hl 1 rfl) ?_
    refine lv_aload_n hx hb d_N_lose_10 rfl (lv_at hl 0 rfl) ?_
    refine va_get (D := D) (C := R_N) (T := F_N) (N := 25) hx hb htw uw_N hown hK hP 0 rfl rfl 3 (by decide) (htw _ k_N_80) (fun _ h9 => h9) rfl d_N_lose_11 ?_
    refine lv_icmp_ge (tgt := 32) hx hb d_N_lose_14 (by decide) (fun c2 => ?_) (fun c2 => ?_)
    · refine lv_iconst (v := 0) hx hb d_N_lose_32 (by decide) ?_
      subst hAe
      have e_S : sp_lo (off, nm, ng, now, F, R) x = (0, (off, nm, ng, now, F, R)) := by simp only [sp_lo]; rw [if_neg (fun q => absurd q.1.2 (Int32.not_lt.mpr c2))]
      exact W.zret (v := 0) hx hb hr (by decide) (fun t ht hW => ⟨⟨_, (), rfl, by rw [e_S], by rw [ht, e_S]; exact hP, by rw [e_S]; exact hD⟩, hS.F ht⟩) hS.2.2 d_N_lose_33
    · have hixj := (show is_ix ng x from ⟨c1, Int32.not_le.mp c2⟩)
      obtain ⟨g, hg, rfl⟩ := ix_of (show ng < 2147483648 by omega) hixj
      have hclj : (nI g).toNatClampNeg = g := nI_clamp (by omega)
      refine lv_aload_n hx hb d_N_lose_17 rfl (lv_at hl 0 rfl) ?_
      refine va_get (D := D) (C := R_N) (T := F_N) (N := 25) hx hb htw uw_N hown hK hP 0 rfl rfl 24 (by decide) (htw _ k_N_67) (fun _ h9 => h9) rfl d_N_lose_18 ?_
      refine lv_bipush (v := 7) hx hb d_N_lose_21 (by decide) ?_
      refine lv_iload_n hx hb d_N_lose_23 rfl (lv_at hl 1 rfl) ?_
      refine lv_imul hx hb d_N_lose_24 ?_
      refine sk_as (y := nI (7 * g)) (pk_mul 7 g) ?_
      refine lv_bipush (v := 6) hx hb d_N_lose_25 (by decide) ?_
      refine lv_iadd hx hb d_N_lose_27 ?_
      refine sk_as (y := nI (7 * g + 6)) (nI_add (7 * g) 6) ?_
      refine ar_ld hx hb hK hP 1 2 rfl rfl (show 7 * g + 6 < 2800 by omega) (by decide) d_N_lose_28 ?_
      refine lv_if_eq (tgt := 34) hx hb d_N_lose_29 (by decide) (fun c3 => ?_) (fun c3 => ?_)
      · refine lv_aload_n hx hb d_N_lose_34 rfl (lv_at hl 0 rfl) ?_
        refine va_get (D := D) (C := R_N) (T := F_N) (N := 25) hx hb htw uw_N hown hK hP 0 rfl rfl 24 (by decide) (htw _ k_N_67) (fun _ h9 => h9) rfl d_N_lose_35 ?_
        refine lv_bipush (v := 7) hx hb d_N_lose_38 (by decide) ?_
        refine lv_iload_n hx hb d_N_lose_40 rfl (lv_at hl 1 rfl) ?_
        refine lv_imul hx hb d_N_lose_41 ?_
        refine sk_as (y := nI (7 * g)) (pk_mul 7 g) ?_
        refine lv_bipush (v := 6) hx hb d_N_lose_42 (by decide) ?_
        refine lv_iadd hx hb d_N_lose_44 ?_
        refine sk_as (y := nI (7 * g + 6)) (nI_add (7 * g) 6) ?_
        refine lv_iconst (v := 2) hx hb d_N_lose_45 (by decide) ?_
        refine ar_st hx hb hK hP hD hS 1 2 rfl rfl (show 7 * g + 6 < 2800 by omega) (by decide) d_N_lose_46 (fun H locs hP hD hS => ?_)
        have hP : va_P D cl_L (ws_N cI r rr ra 0 Sr (off, nm, ng, now, F, upd R (7 * g + 6) 2)) H := hP
        have hD : va_D A (ws_N cI r rr ra 0 Sr (off, nm, ng, now, F, upd R (7 * g + 6) 2)) := hD
        refine lv_iconst (v := 1) hx hb d_N_lose_47 (by decide) ?_
        subst hAe
        have e_S : sp_lo (off, nm, ng, now, F, R) (nI g) = (1, (off, nm, ng, now, F, upd R (7 * g + 6) 2)) := by simp only [sp_lo, hclj]; rw [if_pos ⟨hixj, c3⟩]
        exact W.zret (v := 1) hx hb hr (by decide) (fun t ht hW => ⟨⟨_, (), rfl, by rw [e_S], by rw [ht, e_S]; exact hP, by rw [e_S]; exact hD⟩, hS.F ht⟩) hS.2.2 d_N_lose_48
      · refine lv_iconst (v := 0) hx hb d_N_lose_32 (by decide) ?_
        subst hAe
        have e_S : sp_lo (off, nm, ng, now, F, R) (nI g) = (0, (off, nm, ng, now, F, R)) := by simp only [sp_lo, hclj]; rw [if_neg (fun q => c3 q.2)]
        exact W.zret (v := 0) hx hb hr (by decide) (fun t ht hW => ⟨⟨_, (), rfl, by rw [e_S], by rw [ht, e_S]; exact hP, by rw [e_S]; exact hD⟩, hS.F ht⟩) hS.2.2 d_N_lose_33
