-- THE INVARIANT IS KEPT by every call
section KS
variable {off now : Int32} {t nm ng : Nat} {F F1 : Nat → Nat → Int32} {R R1 : Nat → Int32} {i : Nat}
theorem ix_s {n : Nat} {m : Int32} (hn : n < 1000) (h : is_ix n m) : is_ix (n + 1) m := by
  obtain ⟨h1, h2⟩ := h
  refine ⟨h1, ?_⟩
  rw [i_lt, i_nI (by omega)] at h2 ⊢
  omega
theorem of_in {o : Int32} (h : is_of off o) : 0 ≤ o.toInt ∧ o.toInt < off.toInt := by
  obtain ⟨h1, h2⟩ := h
  rw [i_lt] at h1 h2
  have e0 : (0 : Int32).toInt = 0 := rfl
  omega
theorem wi_in {x a b : Int32} (h : is_wi x a b) : a.toInt ≤ x.toInt ∧ x.toInt ≤ b.toInt := by
  obtain ⟨h1, h2⟩ := h
  rw [i_lt] at h1 h2
  omega
theorem ne_m1 {x : Int32} (h : 0 ≤ x.toInt) : ¬ x = -1 := by
  intro q
  rw [q] at h
  exact absurd h (by decide)
theorem ks_1 (h : iv_S t (off, nm, ng, now, F, R)) (hi : i < nm) (hn : ∀ k j, j ≠ i → F1 k j = F k j) (hm : iv_m off t F1 i) (h6 : F1 6 i = F 6 i) (h9 : F1 9 i = F 9 i) (h13 : F1 13 i = F 13 i) : iv_S t (off, nm, ng, now, F1, R) := by
  obtain ⟨hof, hn20, hnow, ht4, hM, hZ, hG, hcn⟩ := h
  refine ⟨hof, hn20, hnow, ht4, fun j hj => ?_, fun j hj => iz_c (fun k => hn k j (by omega)) (hZ j hj), hG, ia_0.mpr (ia_same hi hn h6 h9 h13 (ia_0.mp hcn))⟩
  by_cases hji : j = i
  · subst hji; exact hm
  · exact im_c (fun k => hn k j hji) (hM j hj)
theorem kp_mv (h : iv_S t (off, nm, ng, now, F, R)) (a b d s n v : Int32) : iv_S t (sp_mv (off, nm, ng, now, F, R) a b d s n v).2.2 := by
  simp only [sp_mv]
  by_cases hc : is_of off a ∧ is_of off b ∧ ¬ a = b ∧ is_wi d now 10000 ∧ is_wi s 1 1000000000 ∧ is_wi n 1 1000 ∧ is_wi v 0 1000000
  · rw [if_pos hc]
    by_cases h20 : nm = 20
    · rw [if_pos h20]; exact h
    · rw [if_neg h20]
      obtain ⟨hof, hn20, hnow, ht4, hM, hZ, hG, hcn⟩ := h
      obtain ⟨c1, c2, -, c4, c5, c6, c7⟩ := hc
      have c1 := of_in c1
      have c2 := of_in c2
      have c4 := wi_in c4
      have c6 := wi_in c6
      have c7 := wi_in c7
      have hnw : now.toInt = t := by rw [hnow, i_nI (by omega)]
      have e1 : (1 : Int32).toInt = 1 := rfl
      have e0 : (0 : Int32).toInt = 0 := rfl
      have e4 : (10000 : Int32).toInt = 10000 := rfl
      have e3 : (1000 : Int32).toInt = 1000 := rfl
      have e6 : (1000000 : Int32).toInt = 1000000 := rfl
      have em : (-1 : Int32).toInt = -1 := rfl
      obtain ⟨z8, z11, z12, z13, z17, z18⟩ := hZ nm (Nat.le_refl _)
      refine ⟨hof, by omega, hnow, ht4, fun j hj => ?_, fun j hj => iz_c (fun k => nw_ni (by omega)) (hZ j (by omega)), ?_, ?_⟩
      · by_cases hjn : j = nm
        · subst hjn
          unfold iv_m nw_F
          simp only [up_at]
          refine ⟨c1, c2, ?_, ?_, ?_, ?_, ?_, ?_, ?_, ?_, ?_, ?_, ?_, ?_, ?_, ?_, ?_⟩ <;> simp only [reduceIte, z8, z11, z12, z13, z17, z18, Nat.reduceEqDiff] <;> first | omega | decide | (simp [z8, z11, z12, z13, z17, z18]; omega) | simp [z8, z11, z12, z13, z17, z18]
        · exact im_c (fun k => nw_ni hjn) (hM j (by omega))
      · exact ig_sn (fun j hj => by obtain ⟨q1, q2⟩ := hG j hj; exact ⟨ix_s (by omega) q1, q2⟩) (ix_nI (by omega) (by omega)) (by omega) (by omega)
      · obtain ⟨k1, k2⟩ := hcn
        have w1 : wt_N (nw_F F nm a b d s n v) nm = 1 := by
          unfold wt_N nw_F
          simp only [up_at]
          simp [z13]
        have w2 : en_N (nw_F F nm a b d s n v) nm = 0 := by
          unfold en_N nw_F
          simp only [up_at]
          simp [z13]
        refine ia_0.mpr (ia_s (by decide) ⟨?_, ?_⟩)
        · show _ ≤ sm_N (wt_N _) nm + wt_N _ nm + _
          rw [w1, sm_N_congr (g := wt_N F) nm (fun j hj => wt_c (fun k => nw_ni (by omega)))]
          omega
        · show _ ≤ sm_N (en_N _) nm + en_N _ nm
          rw [w2, sm_N_congr (g := en_N F) nm (fun j hj => en_c (fun k => nw_ni (by omega)))]
          omega
  · rw [if_neg hc]; exact h
theorem kp_ar (h : iv_S t (off, nm, ng, now, F, R)) (m o s : Int32) : iv_S t (sp_ar (off, nm, ng, now, F, R) m o s).2.2 := by
  simp only [sp_ar]
  by_cases hc : is_ix nm m ∧ is_of off o ∧ is_wi s 0 1000000000
  · rw [if_pos hc]
    obtain ⟨hof, hn20, hnow, ht4, hM, hZ, hG, hcn⟩ := id h
    obtain ⟨c1, c2, c3⟩ := hc
    obtain ⟨i, hi, rfl⟩ := ix_of (by omega) c1
    rw [nI_clamp (show i < 2 ^ 31 by omega)]
    by_cases hd : ¬ F 6 i = -1 ∨ o = F 0 i ∨ F 10 i = 6
    · rw [if_pos hd]; exact h
    · rw [if_neg hd]
      have h6 : F 6 i = -1 := Classical.not_not.mp (fun q => hd (Or.inl q))
      have c2 := of_in c2
      have c3 := wi_in c3
      have e0 : (0 : Int32).toInt = 0 := rfl
      rw [e0] at c3
      obtain ⟨b, hb⟩ : ∃ b : Int32, b = if F 2 i < now then 1 else 0 := ⟨_, rfl⟩
      rw [← hb]
      have hb2 : 0 ≤ b.toInt ∧ b.toInt ≤ 1 := by rw [hb]; split <;> decide
      have hne : ∀ k j, j ≠ i → up_F (up_F (up_F F 6 i o) 7 i s) 8 i b k j = F k j := fun k j hj => by rw [up_ni hj, up_ni hj, up_ni hj]
      have hMn : ∀ j, j < nm → iv_m off t (up_F (up_F (up_F F 6 i o) 7 i s) 8 i b) j := by
        intro j hj
        by_cases hji : j = i
        · subst hji
          obtain ⟨a1, a2, a3, a4, a5, a6, a7, a8, a9, a10, a11, a12, a13, a14⟩ := hM j hj
          unfold iv_m
          simp only [up_at]
          exact ⟨a1, a2, a3, a4, a5, by simp; omega, by simp; omega, by simp; omega, a9, a10, a11, a12, a13, a14⟩
        · exact im_c (fun k => hne k j hji) (hM j hj)
      have hZn : ∀ j, nm ≤ j → iv_z (up_F (up_F (up_F F 6 i o) 7 i s) 8 i b) j := fun j hj => iz_c (fun k => hne k j (by omega)) (hZ j hj)
      have hw : wt_N F i + 2 ≤ wt_N (up_F (up_F (up_F F 6 i o) 7 i s) 8 i b) i := by
        simp only [wt_N, up_at]
        simp [h6, ne_m1 c2.1]
        omega
      have ha := ia_F (b := 2) (f := 0) hi hne hw (by simp only [en_N, up_at]; simp) (ia_0.mp hcn)
      have hix := ix_nI (n := nm) (i := i) (by omega) hi
      by_cases ho : o = F 1 i
      · rw [if_pos ho]
        exact ⟨hof, hn20, hnow, ht4, hMn, hZn, ig_sn hG hix (by omega) (by omega), ia_0.mpr (ia_w (by omega) (by omega) (ia_s (a := 1) (by decide) ha))⟩
      · rw [if_neg ho]
        exact ⟨hof, hn20, hnow, ht4, hMn, hZn, ig_sn (ig_sn hG hix (by omega) (by omega)) hix (by omega) (by decide), ia_0.mpr (ia_s (by decide) (ia_s (a := 1) (by decide) ha))⟩
  · rw [if_neg hc]; exact h
theorem kp_co (h : iv_S t (off, nm, ng, now, F, R)) (m n : Int32) : iv_S t (sp_co (off, nm, ng, now, F, R) m n).2.2 := by
  simp only [sp_co]
  by_cases hc : is_ix nm m ∧ is_wi n 0 1000
  · rw [if_pos hc]
    obtain ⟨hof, hn20, hnow, ht4, hM, hZ, hG, hcn⟩ := id h
    obtain ⟨c1, c3⟩ := hc
    obtain ⟨i, hi, rfl⟩ := ix_of (by omega) c1
    rw [nI_clamp (show i < 2 ^ 31 by omega)]
    by_cases hd : F 6 i = -1 ∨ ¬ F 9 i = -1
    · rw [if_pos hd]; exact h
    · rw [if_neg hd]
      have h9 : F 9 i = -1 := Classical.not_not.mp (fun q => hd (Or.inr q))
      have c3 := wi_in c3
      have e0 : (0 : Int32).toInt = 0 := rfl
      rw [e0] at c3
      have hne : ∀ k j, j ≠ i → up_F F 9 i n k j = F k j := fun k j hj => up_ni hj
      have hw : wt_N F i + 1 ≤ wt_N (up_F F 9 i n) i := by
        simp only [wt_N, up_at]
        simp [h9, ne_m1 c3.1]
        omega
      have ha := ia_F (b := 1) (f := 0) hi hne hw (by simp only [en_N, up_at]; simp) (ia_0.mp hcn)
      have h7 := (hM i hi).2.2.2.2.2.2.1
      refine ⟨hof, hn20, hnow, ht4, fun j hj => ?_, fun j hj => iz_c (fun k => hne k j (by omega)) (hZ j hj), ig_sn hG (ix_nI (by omega) hi) (by omega) h7, ia_0.mpr (ia_s (by decide) ha)⟩
      by_cases hji : j = i
      · subst hji
        obtain ⟨a1, a2, a3, a4, a5, a6, a7, a8, a9, a10, a11, a12, a13, a14⟩ := hM j hj
        unfold iv_m
        simp only [up_at]
        exact ⟨a1, a2, a3, a4, a5, a6, a7, a8, by simp; omega, a10, a11, a12, a13, a14⟩
      · exact im_c (fun k => hne k j hji) (hM j hj)
  · rw [if_neg hc]; exact h
/-- a message's last number is set -/
theorem eq_up {j : Nat} {v : Int32} : sm_N (eq_N (upd R (7 * j + 6) v)) ng = sm_N (eq_N R) ng := sm_N_congr ng (fun k _ => by unfold eq_N; rw [upd_n (by omega)])
theorem er_up {j : Nat} {v : Int32} (hj : j < ng) (h0 : R (7 * j + 6) = 0) : sm_N (er_N (upd R (7 * j + 6) v)) ng = sm_N (er_N R) ng + (if R (7 * j) = 4 ∧ v = 1 then 1 else 0) := by
  have h1 := sm_N_one (f := er_N (upd R (7 * j + 6) v)) (g := er_N R) ng hj (fun k hk => by unfold er_N; rw [upd_n (by omega), upd_n (by omega)])
  have e1 : er_N R j = 0 := by unfold er_N; rw [h0, if_neg (fun q => absurd q.2 (by decide))]
  have e2 : er_N (upd R (7 * j + 6) v) j = if R (7 * j) = 4 ∧ v = 1 then 1 else 0 := by unfold er_N; rw [upd_n (by omega), upd_s]
  omega
theorem ig_up {j : Nat} {v : Int32} (hG : ∀ k, k < ng → iv_g nm R k) : ∀ k, k < ng → iv_g nm (upd R (7 * j + 6) v) k := by
  intro k hk
  have := hG k hk
  unfold iv_g at this ⊢
  rw [upd_n (by omega), upd_n (by omega), upd_n (by omega)]
  exact this
theorem kp_lo (h : iv_S t (off, nm, ng, now, F, R)) (j : Int32) : iv_S t (sp_lo (off, nm, ng, now, F, R) j).2 := by
  simp only [sp_lo]
  by_cases hc : is_ix ng j ∧ R (7 * j.toNatClampNeg + 6) = 0
  · rw [if_pos hc]
    obtain ⟨hof, hn20, hnow, ht4, hM, hZ, hG, hcn⟩ := id h
    have hg := cn_0 hM hcn
    obtain ⟨c1, c2⟩ := hc
    obtain ⟨g, hg2, rfl⟩ := ix_of (by omega) c1
    rw [nI_clamp (show g < 2 ^ 31 by omega)] at c2 ⊢
    refine ⟨hof, hn20, hnow, ht4, hM, hZ, ig_up hG, ?_⟩
    obtain ⟨k1, k2⟩ := hcn
    refine ⟨?_, ?_⟩
    · rw [er_up hg2 c2, if_neg (fun q => absurd q.2 (by decide))]; exact k1
    · rw [eq_up]; exact k2
  · rw [if_neg hc]; exact h
theorem kp_re (h : iv_S t (off, nm, ng, now, F, R)) (o j : Int32) : iv_S t (sp_re (off, nm, ng, now, F, R) o j).2.2 := by
  simp only [sp_re]
  by_cases hc : is_of off o ∧ is_ix ng j
  · rw [if_pos hc]
    obtain ⟨hof, hn20, hnow, ht4, hM, hZ, hG, hcn⟩ := id h
    have hg0 := cn_0 hM hcn
    obtain ⟨g, hg, rfl⟩ := ix_of (by omega) hc.2
    rw [nI_clamp (show g < 2 ^ 31 by omega)]
    by_cases hd : ¬ R (7 * g + 6) = 0 ∨ ¬ R (7 * g + 3) = o
    · rw [if_pos hd]; exact h
    · rw [if_neg hd]
      have h0 : R (7 * g + 6) = 0 := Classical.not_not.mp (fun q => hd (Or.inl q))
      have u0 : upd R (7 * g + 6) 1 (7 * g) = R (7 * g) := upd_n (by omega)
      have u1 : upd R (7 * g + 6) 1 (7 * g + 1) = R (7 * g + 1) := upd_n (by omega)
      have u4 : upd R (7 * g + 6) 1 (7 * g + 4) = R (7 * g + 4) := upd_n (by omega)
      have u5 : upd R (7 * g + 6) 1 (7 * g + 5) = R (7 * g + 5) := upd_n (by omega)
      obtain ⟨g1, g4, g5⟩ := hG g hg
      obtain ⟨i, hi, hxi⟩ := ix_of (by omega) g1
      have hix := ix_nI (n := nm) (i := i) (by omega) hi
      obtain ⟨k1, k2⟩ := hcn
      have hav : iv_a (if R (7 * g) = 4 then 1 else 0) 0 nm ng F (upd R (7 * g + 6) 1) := by
        refine ⟨?_, ?_⟩
        · rw [er_up hg h0]
          by_cases q : R (7 * g) = 4
          · rw [if_pos q, if_pos ⟨q, rfl⟩]; omega
          · rw [if_neg q, if_neg (fun z => q z.1)]; omega
        · rw [eq_up]; exact k2
      have hs : iv_S t (off, nm, ng, now, F, upd R (7 * g + 6) 1) := ⟨hof, hn20, hnow, ht4, hM, hZ, ig_up hG, ia_0.mpr (ia_w (by omega) (by omega) hav)⟩
      obtain ⟨a1, a2, a3, a4, a5, a6, a7, a8, a9, a10, a11, a12, a13, a14, a16, a17, a18⟩ := hM i hi
      simp only [ac_S, u0, u1, u4, u5, hxi, nI_clamp (show i < 2 ^ 31 by omega)]
      by_cases r1 : R (7 * g) = 1
      · rw [if_pos r1]
        refine ks_1 hs hi (fun k j hj => up_ni hj) ?_ rfl rfl rfl
        unfold iv_m
        simp only [up_at]
        exact ⟨a1, a2, a3, a4, a5, a6, a7, a8, a9, a10, a11, a12, a13, a14, a16, by simp, a18⟩
      · rw [if_neg r1]
        by_cases r2 : R (7 * g) = 2
        · rw [if_pos r2]
          unfold la_F
          by_cases q : is_aw (F 10 i)
          · rw [if_pos q]
            refine ks_1 hs hi (fun k j hj => by rw [up_ni hj, up_ni hj, up_ni hj]) ?_ rfl rfl rfl
            have h10 : ¬ (F 10 i).toInt = 5 := by
              rcases q with q | q <;> rw [q] <;> decide
            unfold iv_m
            simp only [up_at]
            exact ⟨a1, a2, a3, a4, a5, a6, a7, a8, a9, by simp, a11, fun _ => a12 h10, a13, by simp; exact g4, a16, a17, a18⟩
          · rw [if_neg q]
            refine ks_1 hs hi (fun k j hj => by rw [up_ni hj, up_ni hj]) ?_ rfl rfl rfl
            unfold iv_m
            simp only [up_at]
            exact ⟨a1, a2, a3, a4, a5, a6, a7, a8, a9, a10, a11, a12, a13, by simp; exact g4, a16, a17, a18⟩
        · rw [if_neg r2]
          by_cases r3 : R (7 * g) = 3
          · rw [if_pos r3]
            unfold lr_F
            by_cases q : is_en (F 10 i)
            · rw [if_pos q]
              refine ks_1 hs hi (fun k j hj => by rw [up_ni hj, up_ni hj]) ?_ rfl rfl rfl
              unfold iv_m
              simp only [up_at]
              exact ⟨a1, a2, a3, a4, a5, a6, a7, a8, a9, a10, a11, a12, a13, by simp; exact g5, by simp; exact g4, a17, a18⟩
            · rw [if_neg q]
              refine ks_1 hs hi (fun k j hj => by rw [up_ni hj, up_ni hj, up_ni hj, up_ni hj]) ?_ rfl rfl rfl
              have h10 : ¬ (F 10 i).toInt = 5 := fun z => q (Or.inl (i_eq.mpr z))
              obtain ⟨st, hst⟩ : ∃ st : Int32, st = if R (7 * g + 5) = F 3 i ∧ R (7 * g + 4) = F 4 i then 6 else 3 := ⟨_, rfl⟩
              have hst2 : st.toInt = 6 ∨ st.toInt = 3 := by rw [hst]; split <;> decide
              rw [← hst]
              have hmx : 0 ≤ (mx_I (F 11 i) (mn_I (R (7 * g + 4)) (F 4 i))).toInt ∧ (mx_I (F 11 i) (mn_I (R (7 * g + 4)) (F 4 i))).toInt ≤ (F 4 i).toInt := by
                have e1 := mn_t (R (7 * g + 4)) (F 4 i)
                have e2 : (mx_I (F 11 i) (mn_I (R (7 * g + 4)) (F 4 i))).toInt = if (F 11 i).toInt < (mn_I (R (7 * g + 4)) (F 4 i)).toInt then (mn_I (R (7 * g + 4)) (F 4 i)).toInt else (F 11 i).toInt := by
                  simp only [mx_I, i_lt]
                  split <;> rfl
                rw [e2]
                split at e1 <;> split <;> omega
              unfold iv_m
              simp only [up_at]
              exact ⟨a1, a2, a3, a4, a5, a6, a7, a8, a9, by simp; omega, by simp; exact hmx, fun _ => a12 h10, a13, by simp; exact g5, by simp; exact g4, a17, a18⟩
          · rw [if_neg r3]
            by_cases r4 : R (7 * g) = 4
            · rw [if_pos r4]
              rw [if_pos r4] at hav
              refine ⟨hof, hn20, hnow, ht4, hM, hZ, ?_, ?_⟩
              · unfold an_R
                split
                · split
                  · exact ig_sn (ig_up hG) hix a7 (by omega)
                  · exact ig_sn (ig_up hG) hix a9 a7
                · exact ig_sn (ig_up hG) hix (by omega) (by omega)
              · refine ia_0.mpr ?_
                unfold an_R
                split
                · split
                  · exact ia_s (by decide) hav
                  · exact ia_s (by decide) hav
                · exact ia_s (by decide) hav
            · rw [if_neg r4]
              by_cases r6 : R (7 * g) = 6
              · rw [if_pos r6]
                refine ks_1 hs hi (fun k j hj => up_ni hj) ?_ rfl rfl rfl
                unfold iv_m
                simp only [up_at]
                exact ⟨a1, a2, a3, a4, a5, a6, a7, a8, a9, a10, a11, a12, a13, a14, a16, a17, by simp⟩
              · rw [if_neg r6]; exact hs
  · rw [if_neg hc]; exact h
theorem kp_di (h : iv_S t (off, nm, ng, now, F, R)) (m n : Int32) : iv_S t (sp_di (off, nm, ng, now, F, R) m n).2.2 := by
  simp only [sp_di]
  by_cases hc : is_ix nm m ∧ ¬ n < 1
  · rw [if_pos hc]
    obtain ⟨hof, hn20, hnow, ht4, hM, hZ, hG, hcn⟩ := id h
    obtain ⟨c1, c3⟩ := hc
    obtain ⟨i, hi, rfl⟩ := ix_of (by omega) c1
    rw [nI_clamp (show i < 2 ^ 31 by omega)]
    by_cases hd : ¬ F 10 i = 3 ∨ F 4 i - F 11 i < n
    · rw [if_pos hd]; exact h
    · rw [if_neg hd]
      have h3 : F 10 i = 3 := Classical.not_not.mp (fun q => hd (Or.inl q))
      have hl : ¬ F 4 i - F 11 i < n := fun q => hd (Or.inr q)
      obtain ⟨a1, a2, a3, a4, a5, a6, a7, a8, a9, a10, a11, a12, a13, a14⟩ := hM i hi
      have e1 : (1 : Int32).toInt = 1 := rfl
      have hs : (F 4 i - F 11 i).toInt = (F 4 i).toInt - (F 11 i).toInt := i_sub (by omega) (by omega)
      rw [i_lt, hs] at hl
      rw [i_lt, e1] at c3
      have ha : (F 11 i + n).toInt = (F 11 i).toInt + n.toInt := i_add (by omega) (by omega)
      have h10 : ¬ (F 10 i).toInt = 5 := by rw [h3]; decide
      have hb9 : 0 ≤ (F 11 i + n).toInt ∧ (F 11 i + n).toInt ≤ (F 4 i).toInt := by omega
      by_cases hz : F 4 i - (F 11 i + n) = 0
      · rw [if_pos hz]
        refine ks_1 h hi (fun k j hj => by rw [up_ni hj, up_ni hj]) ?_ rfl rfl rfl
        unfold iv_m
        simp only [up_at]
        exact ⟨a1, a2, a3, a4, a5, a6, a7, a8, a9, by simp, hb9, fun _ => a12 h10, a13, a14⟩
      · rw [if_neg hz]
        refine ks_1 h hi (fun k j hj => up_ni hj) ?_ rfl rfl rfl
        unfold iv_m
        simp only [up_at]
        exact ⟨a1, a2, a3, a4, a5, a6, a7, a8, a9, a10, hb9, a12, a13, a14⟩
  · rw [if_neg hc]; exact h
theorem kp_pr (h : iv_S t (off, nm, ng, now, F, R)) (m : Int32) : iv_S t (sp_pr (off, nm, ng, now, F, R) m).2.2 := by
  simp only [sp_pr]
  by_cases hc : is_ix nm m
  · rw [if_pos hc]
    obtain ⟨hof, hn20, hnow, ht4, hM, hZ, hG, hcn⟩ := id h
    obtain ⟨i, hi, rfl⟩ := ix_of (by omega) hc
    rw [nI_clamp (show i < 2 ^ 31 by omega)]
    obtain ⟨a1, a2, a3, a4, a5, a6, a7, a8, a9, a10, a11, a12, a13, a14⟩ := hM i hi
    by_cases q : ¬ is_en (F 10 i)
    · rw [if_pos q]
      have h10 : ¬ (F 10 i).toInt = 5 := fun z => q (Or.inl (i_eq.mpr z))
      refine ks_1 h hi (fun k j hj => up_ni hj) ?_ rfl rfl rfl
      unfold iv_m
      simp only [up_at]
      exact ⟨a1, a2, a3, a4, a5, a6, a7, a8, a9, by simp, a11, fun _ => a12 h10, a13, a14⟩
    · rw [if_neg q]
      by_cases q2 : F 10 i = 5 ∧ ¬ F 2 i + 70 < now
      · rw [if_pos q2]
        refine ks_1 h hi (fun k j hj => by rw [up_ni hj, up_ni hj]) ?_ rfl rfl rfl
        unfold iv_m
        simp only [up_at]
        exact ⟨a1, a2, a3, a4, a5, a6, a7, a8, a9, by simp, a11, fun _ => by simp, a13, a14⟩
      · rw [if_neg q2]; exact h
  · rw [if_neg hc]; exact h
theorem kp_ti (h : iv_S t (off, nm, ng, now, F, R)) (x : Int32) : ∃ t1, iv_S t1 (sp_ti (off, nm, ng, now, F, R) x).2.2 := by
  simp only [sp_ti]
  by_cases hc : is_wi x now 10000
  · rw [if_pos hc]
    obtain ⟨hof, hn20, hnow, ht4, hM, hZ, hG, hcn⟩ := id h
    obtain ⟨T, hT1, hT2, rfl⟩ := tk_x ht4 (by rw [← hnow]; exact hc)
    rw [hnow, nI_clamp (show T < 2 ^ 31 by omega), nI_clamp (show t < 2 ^ 31 by omega)]
    have iv9 := iv_s (c := 0) hn20 hM hZ hG hcn (T - t) (by omega)
    rw [show t + (T - t) = T by omega] at iv9
    exact ⟨T, hof, hn20, rfl, hT2, iv9⟩
  · rw [if_neg hc]; exact ⟨t, h⟩
theorem kp_0 (x : Int32) : iv_S 0 (of_I x, 0, 0, 0, (fun _ _ => 0), (fun _ => 0)) := by
  refine ⟨?_, by omega, rfl, by omega, fun i hi => absurd hi (Nat.not_lt_zero _), fun i hi => ⟨rfl, rfl, rfl, rfl, rfl, rfl⟩, fun j hj => absurd hj (Nat.not_lt_zero _), ⟨Nat.le_refl _, Nat.le_refl _⟩⟩
  unfold of_I
  split
  · rename_i q
    exact wi_in q
  · decide
end KS
