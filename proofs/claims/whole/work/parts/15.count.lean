-- HOW MANY MESSAGES THERE CAN BE
section CN
variable {off : Int32} {t nm ng : Nat} {F : Nat → Nat → Int32} {R : Nat → Int32}
theorem i_ofc {a : Int32} {n : Nat} (h : a.toInt ≤ n) : a.toNatClampNeg ≤ n := by
  by_cases h0 : 0 ≤ a.toInt
  · have := i_cl h0; omega
  · have : a.toNatClampNeg = 0 := by rw [Int32.toNatClampNeg]; omega
    omega
theorem en_le {i : Nat} (h : iv_m off t F i) : en_N F i ≤ 3 := by
  have h1 := h.2.2.2.2.2.2.2.2.2.2.2.2.1.2
  have h2 := du_le t (F 2 i)
  exact i_ofc (by omega)
theorem wt_le {i : Nat} (h : iv_m off t F i) : wt_N F i ≤ 7 := by
  have h1 : (F 13 i).toNatClampNeg ≤ 3 := en_le h
  unfold wt_N
  split <;> split <;> omega
theorem er_le : sm_N (er_N R) ng ≤ sm_N (eq_N R) ng := by
  apply sm_N_mono
  intro j _
  unfold er_N eq_N
  by_cases h : R (7 * j) = 4
  · simp only [h, true_and, if_true]; split <;> omega
  · simp [h]
theorem cn_all (hM : ∀ i, i < nm → iv_m off t F i) (hc : iv_c nm ng F R) {a b d : Nat} (h1 : sm_N (wt_N F) nm + a ≤ 7 * nm) (h2 : sm_N (er_N R) ng + b ≤ sm_N (eq_N R) ng) (h3 : sm_N (en_N F) nm + d ≤ 3 * nm) : ng + a + b + d ≤ 10 * nm := by
  obtain ⟨c1, c2⟩ := hc
  omega
theorem cn_w (hM : ∀ i, i < nm → iv_m off t F i) : sm_N (wt_N F) nm + 0 ≤ 7 * nm := sm_N_le nm (fun i hi => wt_le (hM i hi))
theorem cn_e (hM : ∀ i, i < nm → iv_m off t F i) : sm_N (en_N F) nm + 0 ≤ 3 * nm := sm_N_le nm (fun i hi => en_le (hM i hi))
theorem cn_r : sm_N (er_N R) ng + 0 ≤ sm_N (eq_N R) ng := er_le
theorem cn_0 (hM : ∀ i, i < nm → iv_m off t F i) (hc : iv_c nm ng F R) : ng ≤ 10 * nm := by
  have := cn_all hM hc (cn_w hM) cn_r (cn_e hM)
  omega
theorem cn_ar (hM : ∀ i, i < nm → iv_m off t F i) (hc : iv_c nm ng F R) {i : Nat} (hi : i < nm) (h : F 6 i = -1) : ng + 2 ≤ 10 * nm := by
  have h1 : sm_N (wt_N F) nm + 2 ≤ 7 * nm := by
    refine sm_N_lt nm hi (fun j hj => wt_le (hM j hj)) ?_
    have := en_le (hM i hi)
    unfold en_N at this
    unfold wt_N
    rw [if_pos h]
    split <;> omega
  have := cn_all hM hc h1 cn_r (cn_e hM)
  omega
theorem cn_co (hM : ∀ i, i < nm → iv_m off t F i) (hc : iv_c nm ng F R) {i : Nat} (hi : i < nm) (h : F 9 i = -1) : ng + 1 ≤ 10 * nm := by
  have h1 : sm_N (wt_N F) nm + 1 ≤ 7 * nm := by
    refine sm_N_lt nm hi (fun j hj => wt_le (hM j hj)) ?_
    have := en_le (hM i hi)
    unfold en_N at this
    unfold wt_N
    rw [if_pos h]
    split <;> omega
  have := cn_all hM hc h1 cn_r (cn_e hM)
  omega
theorem sm_N_lt2 {f g : Nat → Nat} {i d : Nat} : ∀ n, i < n → (∀ j, j < n → f j ≤ g j) → f i + d ≤ g i → sm_N f n + d ≤ sm_N g n
  | 0, h, _, _ => by omega
  | n + 1, h, hB, hd => by
    show sm_N f n + f n + d ≤ sm_N g n + g n
    by_cases hi : i = n
    · subst hi
      have h1 := sm_N_mono i (fun j hj => hB j (by omega))
      omega
    · have h1 := sm_N_lt2 n (by omega) (fun j hj => hB j (by omega)) hd
      have h2 := hB n (by omega)
      omega
theorem cn_re (hM : ∀ i, i < nm → iv_m off t F i) (hc : iv_c nm ng F R) {j : Nat} (hj : j < ng) (h4 : R (7 * j) = 4) (h6 : ¬ R (7 * j + 6) = 1) : ng + 1 ≤ 10 * nm := by
  have h2 : sm_N (er_N R) ng + 1 ≤ sm_N (eq_N R) ng := by
    refine sm_N_lt2 ng hj (fun k _ => ?_) ?_
    · unfold er_N eq_N
      by_cases h : R (7 * k) = 4
      · simp only [h, true_and, if_true]; split <;> omega
      · simp [h]
    · simp [er_N, eq_N, h4, h6]
  have := cn_all hM hc (cn_w hM) h2 (cn_e hM)
  omega
theorem cn_en (hM : ∀ i, i < nm → iv_m off t F i) (hc : iv_c nm ng F R) {i : Nat} (hi : i < nm) (h : (F 13 i).toInt ≤ 2) : ng + 1 ≤ 10 * nm := by
  have h2 : en_N F i ≤ 2 := i_ofc (by omega)
  have h1 : sm_N (wt_N F) nm + 1 ≤ 7 * nm := by
    refine sm_N_lt nm hi (fun j hj => wt_le (hM j hj)) ?_
    unfold en_N at h2
    unfold wt_N
    split <;> split <;> omega
  have := cn_all hM hc h1 cn_r (cn_e hM)
  omega
end CN
theorem b_01 {x : Int32} (h : 0 ≤ x.toInt ∧ x.toInt ≤ 1) : x = 0 ∨ x = 1 := by
  by_cases h0 : x.toInt = 0
  · exact Or.inl (i_eq.mpr h0)
  · exact Or.inr (i_eq.mpr (show x.toInt = 1 by omega))
section IV
variable {off : Int32} {t : Nat} {F : Nat → Nat → Int32} {i : Nat}
theorem m_8 (h : iv_m off t F i) : F 8 i = 0 ∨ F 8 i = 1 := b_01 h.2.2.2.2.2.2.2.1
theorem m_17 (h : iv_m off t F i) : F 17 i = 0 ∨ F 17 i = 1 := b_01 h.2.2.2.2.2.2.2.2.2.2.2.2.2.2.2.1
theorem m_18 (h : iv_m off t F i) : F 18 i = 0 ∨ F 18 i = 1 := b_01 h.2.2.2.2.2.2.2.2.2.2.2.2.2.2.2.2
theorem m_4 (h : iv_m off t F i) : ¬ F 4 i < 1 := by
  rw [i_lt]
  have := h.2.2.2.1.1
  show ¬ (F 4 i).toInt < 1
  omega
end IV
-- THROWS: the words
section TH
variable {args : Array Value} {s : State} {D : va_G} {cM cG cI cJ : ClassId}
theorem nx_use (hY : yt_P D cM cG cI cJ s) : ∀ w ∈ nx_L, w.before args s = true := by
  intro w hw
  have h := hY.2.2.2.2.2.2.1 w hw
  refine va_Nw.use ?_ h
  have : ∀ w ∈ nx_L, w.onTables = true := by decide +kernel
  exact this w hw
-- THROWS END
theorem al_IllegalArgumentException : ∀ w ∈ (vx_atS R_T 42 "java/lang/IllegalArgumentException" ["java/lang/RuntimeException", "java/lang/Exception"]).filter goodWord, w ∈ lw_tbl := by decide +kernel
theorem an_IllegalArgumentException : ∀ w ∈ (vx_atS R_T 42 "java/lang/IllegalArgumentException" ["java/lang/RuntimeException", "java/lang/Exception"]).filter (fun w => !goodWord w), w ∈ nx_L := by decide +kernel
theorem ag_IllegalArgumentException : ∀ w ∈ Cond.classLink R_T 38 "java/lang/IllegalArgumentException" :: Cond.initialized "java/lang/IllegalArgumentException" :: vx_atS R_T 42 "java/lang/IllegalArgumentException" ["java/lang/RuntimeException", "java/lang/Exception"], vx_ot w = true := by decide +kernel
theorem at_IllegalArgumentException (htw : ∀ w ∈ tw_L, w.before args s = true) (hY : yt_P D cM cG cI cJ s) : ∀ w ∈ vx_atS R_T 42 "java/lang/IllegalArgumentException" ["java/lang/RuntimeException", "java/lang/Exception"], w.before args s = true := vx_hat (B := nx_L) (fun w h => htw w (List.mem_filter.mpr ⟨al_IllegalArgumentException w h, (List.mem_filter.mp h).2⟩)) an_IllegalArgumentException (nx_use hY)
theorem al_IllegalStateException : ∀ w ∈ (vx_atS R_T 59 "java/lang/IllegalStateException" ["java/lang/RuntimeException", "java/lang/Exception"]).filter goodWord, w ∈ lw_tbl := by decide +kernel
theorem an_IllegalStateException : ∀ w ∈ (vx_atS R_T 59 "java/lang/IllegalStateException" ["java/lang/RuntimeException", "java/lang/Exception"]).filter (fun w => !goodWord w), w ∈ nx_L := by decide +kernel
theorem ag_IllegalStateException : ∀ w ∈ Cond.classLink R_T 55 "java/lang/IllegalStateException" :: Cond.initialized "java/lang/IllegalStateException" :: vx_atS R_T 59 "java/lang/IllegalStateException" ["java/lang/RuntimeException", "java/lang/Exception"], vx_ot w = true := by decide +kernel
theorem at_IllegalStateException (htw : ∀ w ∈ tw_L, w.before args s = true) (hY : yt_P D cM cG cI cJ s) : ∀ w ∈ vx_atS R_T 59 "java/lang/IllegalStateException" ["java/lang/RuntimeException", "java/lang/Exception"], w.before args s = true := vx_hat (B := nx_L) (fun w h => htw w (List.mem_filter.mpr ⟨al_IllegalStateException w h, (List.mem_filter.mp h).2⟩)) an_IllegalStateException (nx_use hY)
theorem al_IndexOutOfBoundsException : ∀ w ∈ (vx_atS R_T 160 "java/lang/IndexOutOfBoundsException" ["java/lang/RuntimeException", "java/lang/Exception"]).filter goodWord, w ∈ lw_tbl := by decide +kernel
theorem an_IndexOutOfBoundsException : ∀ w ∈ (vx_atS R_T 160 "java/lang/IndexOutOfBoundsException" ["java/lang/RuntimeException", "java/lang/Exception"]).filter (fun w => !goodWord w), w ∈ nx_L := by decide +kernel
theorem ag_IndexOutOfBoundsException : ∀ w ∈ Cond.classLink R_T 158 "java/lang/IndexOutOfBoundsException" :: Cond.initialized "java/lang/IndexOutOfBoundsException" :: vx_atS R_T 160 "java/lang/IndexOutOfBoundsException" ["java/lang/RuntimeException", "java/lang/Exception"], vx_ot w = true := by decide +kernel
theorem at_IndexOutOfBoundsException (htw : ∀ w ∈ tw_L, w.before args s = true) (hY : yt_P D cM cG cI cJ s) : ∀ w ∈ vx_atS R_T 160 "java/lang/IndexOutOfBoundsException" ["java/lang/RuntimeException", "java/lang/Exception"], w.before args s = true := vx_hat (B := nx_L) (fun w h => htw w (List.mem_filter.mpr ⟨al_IndexOutOfBoundsException w h, (List.mem_filter.mp h).2⟩)) an_IndexOutOfBoundsException (nx_use hY)
end TH
