-- KEEPING THE INVARIANT: pieces
section KP
variable {off : Int32} {t nm ng : Nat} {F F1 : Nat → Nat → Int32} {R R1 : Nat → Int32} {i : Nat}
theorem im_c (h : ∀ k, F1 k i = F k i) (hm : iv_m off t F i) : iv_m off t F1 i := by
  unfold iv_m at hm ⊢
  simp only [h]
  exact hm
theorem im_t {t1 : Nat} (h : t ≤ t1) (hm : iv_m off t F i) : iv_m off t1 F i := by
  obtain ⟨a1, a2, a3, a4, a5, a6, a7, a8, a9, a10, a11, a12, a13, a14⟩ := hm
  have := du_mono (F 2 i) h
  exact ⟨a1, a2, a3, a4, a5, a6, a7, a8, a9, a10, a11, a12, ⟨a13.1, by omega⟩, a14⟩
theorem iz_c (h : ∀ k, F1 k i = F k i) (hm : iv_z F i) : iv_z F1 i := by
  unfold iv_z at hm ⊢
  simp only [h]
  exact hm
def iv_a (a e nm ng : Nat) (F : Nat → Nat → Int32) (R : Nat → Int32) : Prop := ng + a ≤ sm_N (wt_N F) nm + sm_N (er_N R) ng ∧ sm_N (eq_N R) ng + e ≤ sm_N (en_N F) nm
theorem ia_0 : iv_c nm ng F R ↔ iv_a 0 0 nm ng F R := Iff.rfl
theorem ia_w {a e a1 e1 : Nat} (h1 : a1 ≤ a) (h2 : e1 ≤ e) (h : iv_a a e nm ng F R) : iv_a a1 e1 nm ng F R := ⟨by have := h.1; omega, by have := h.2; omega⟩
theorem wt_c {j : Nat} (h : ∀ k, F1 k j = F k j) : wt_N F1 j = wt_N F j := by simp only [wt_N, h]
theorem en_c {j : Nat} (h : ∀ k, F1 k j = F k j) : en_N F1 j = en_N F j := by simp only [en_N, h]
theorem ia_F {a e b f : Nat} (hi : i < nm) (hn : ∀ k j, j ≠ i → F1 k j = F k j) (hw : wt_N F i + b ≤ wt_N F1 i) (he : en_N F i + f ≤ en_N F1 i) (h : iv_a a e nm ng F R) : iv_a (a + b) (e + f) nm ng F1 R := by
  have s1 := sm_N_one (f := wt_N F1) (g := wt_N F) nm hi (fun j hj => wt_c (fun k => hn k j hj))
  have s2 := sm_N_one (f := en_N F1) (g := en_N F) nm hi (fun j hj => en_c (fun k => hn k j hj))
  exact ⟨by have := h.1; omega, by have := h.2; omega⟩
theorem ia_same {a e : Nat} (hi : i < nm) (hn : ∀ k j, j ≠ i → F1 k j = F k j) (h6 : F1 6 i = F 6 i) (h9 : F1 9 i = F 9 i) (h13 : F1 13 i = F 13 i) (h : iv_a a e nm ng F R) : iv_a a e nm ng F1 R :=
  ia_F (b := 0) (f := 0) hi hn (by simp only [wt_N, h6, h9, h13]; omega) (by simp only [en_N, h13]; omega) h
theorem er_sn {k m a b v w : Int32} : sm_N (er_N (sn_R R ng k m a b v w)) (ng + 1) = sm_N (er_N R) ng := by
  show sm_N _ ng + er_N _ ng = _
  have e1 : er_N (sn_R R ng k m a b v w) ng = 0 := by
    unfold er_N
    rw [sn_6, if_neg (fun q => absurd q.2 (by decide))]
  rw [e1, sm_N_congr (g := er_N R) ng (fun j hj => by unfold er_N; rw [sn_o (by omega), sn_o (by omega)])]
  rfl
theorem eq_sn {k m a b v w : Int32} : sm_N (eq_N (sn_R R ng k m a b v w)) (ng + 1) = sm_N (eq_N R) ng + (if k = 4 then 1 else 0) := by
  show sm_N _ ng + eq_N _ ng = _
  have e1 : eq_N (sn_R R ng k m a b v w) ng = if k = 4 then 1 else 0 := by
    unfold eq_N
    rw [sn_0]
  rw [e1, sm_N_congr (g := eq_N R) ng (fun j hj => by unfold eq_N; rw [sn_o (by omega)])]
theorem ia_s {a e : Nat} {k m a1 b v w : Int32} (hk : ¬ k = 4) (h : iv_a (a + 1) e nm ng F R) : iv_a a e nm (ng + 1) F (sn_R R ng k m a1 b v w) := by
  obtain ⟨h1, h2⟩ := h
  refine ⟨?_, ?_⟩
  · rw [er_sn]; omega
  · rw [eq_sn, if_neg hk]; omega
theorem ia_s4 {a e : Nat} {m a1 b v w : Int32} (h : iv_a (a + 1) (e + 1) nm ng F R) : iv_a a e nm (ng + 1) F (sn_R R ng 4 m a1 b v w) := by
  obtain ⟨h1, h2⟩ := h
  refine ⟨?_, ?_⟩
  · rw [er_sn]; omega
  · rw [eq_sn, if_pos rfl]; omega
theorem ig_sn {k m a b v w : Int32} (h : ∀ j, j < ng → iv_g nm R j) (hm : is_ix nm m) (hv : -1 ≤ v.toInt) (hw : -1 ≤ w.toInt) : ∀ j, j < ng + 1 → iv_g nm (sn_R R ng k m a b v w) j := by
  intro j hj
  unfold iv_g
  by_cases hjn : j = ng
  · subst hjn
    rw [sn_1, sn_4, sn_5]
    exact ⟨hm, hv, hw⟩
  · have := h j (by omega)
    unfold iv_g at this
    rw [sn_o (by omega), sn_o (by omega), sn_o (by omega)]
    exact this
end KP
-- DAYS
def iv_d (off : Int32) (nm u k g : Nat) (F : Nat → Nat → Int32) (R : Nat → Int32) : Prop :=
  (∀ i, i < nm → iv_m off (if i < k then u else u - 1) F i) ∧ (∀ i, nm ≤ i → iv_z F i) ∧ (∀ j, j < g → iv_g nm R j) ∧ iv_c nm g F R
section DV
variable {off : Int32} {nm u k g : Nat} {c : Int32} {F : Nat → Nat → Int32} {R : Nat → Int32}
theorem dv_up {F1 : Nat → Nat → Int32} (hk : k < nm) (hn : ∀ q j, j ≠ k → F1 q j = F q j) (h : ∀ i, i < nm → iv_m off (if i < k then u else u - 1) F i) (hkm : iv_m off u F1 k) : ∀ i, i < nm → iv_m off (if i < k + 1 then u else u - 1) F1 i := by
  intro i hi
  by_cases hik : i = k
  · subst hik
    rw [if_pos (by omega)]
    exact hkm
  · have h1 := h i hi
    have e : (if i < k + 1 then u else u - 1) = (if i < k then u else u - 1) := by
      by_cases h2 : i < k
      · rw [if_pos h2, if_pos (by omega)]
      · rw [if_neg h2, if_neg (by omega)]
    rw [e]
    exact im_c (fun q => hn q i hik) h1
theorem dv_z {F1 : Nat → Nat → Int32} (hk : k < nm) (hn : ∀ q j, j ≠ k → F1 q j = F q j) (h : ∀ i, nm ≤ i → iv_z F i) : ∀ i, nm ≤ i → iv_z F1 i := fun i hi => iz_c (fun q => hn q i (by omega)) (h i hi)
theorem du_s {l : Int32} (hu : 1 ≤ u) (hl : 0 ≤ l.toInt ∧ l.toInt ≤ 10000) (hu2 : u ≤ 10000) (h : is_eq (nI u) l) : du_N (u - 1) l + 1 ≤ du_N u l := by
  have e10 : (10 : Int32).toInt = 10 := rfl
  have e15 : (15 : Int32).toInt = 15 := rfl
  have e20 : (20 : Int32).toInt = 20 := rfl
  have a10 : (l + 10).toInt = l.toInt + 10 := by rw [i_add] <;> omega
  have a15 : (l + 15).toInt = l.toInt + 15 := by rw [i_add] <;> omega
  have a20 : (l + 20).toInt = l.toInt + 20 := by rw [i_add] <;> omega
  have hn : (nI u).toInt = u := i_nI (by omega)
  simp only [is_eq, i_eq, a10, a15, a20, hn] at h
  unfold du_N
  have hc : ((u - 1 : Nat) : Int) = (u : Int) - 1 := by omega
  rw [hc]
  rcases h with h | h | h
  · rw [if_neg (show ¬ l.toInt + 10 ≤ (u : Int) - 1 by omega), if_neg (show ¬ l.toInt + 15 ≤ (u : Int) - 1 by omega), if_neg (show ¬ l.toInt + 20 ≤ (u : Int) - 1 by omega), if_pos (show l.toInt + 10 ≤ (u : Int) by omega)]
    omega
  · rw [if_pos (show l.toInt + 10 ≤ (u : Int) - 1 by omega), if_neg (show ¬ l.toInt + 15 ≤ (u : Int) - 1 by omega), if_neg (show ¬ l.toInt + 20 ≤ (u : Int) - 1 by omega), if_pos (show l.toInt + 10 ≤ (u : Int) by omega), if_pos (show l.toInt + 15 ≤ (u : Int) by omega)]
    omega
  · rw [if_pos (show l.toInt + 10 ≤ (u : Int) - 1 by omega), if_pos (show l.toInt + 15 ≤ (u : Int) - 1 by omega), if_neg (show ¬ l.toInt + 20 ≤ (u : Int) - 1 by omega), if_pos (show l.toInt + 10 ≤ (u : Int) by omega), if_pos (show l.toInt + 15 ≤ (u : Int) by omega), if_pos (show l.toInt + 20 ≤ (u : Int) by omega)]
    omega
theorem dv_m (hk : k < nm) (hn20 : nm ≤ 20) (hu : 1 ≤ u) (hu2 : u ≤ 10000) (h : iv_d off nm u k g F R) : iv_d off nm u (k + 1) (dy_m (nI u) k (g, c, F, R)).1 (dy_m (nI u) k (g, c, F, R)).2.2.1 (dy_m (nI u) k (g, c, F, R)).2.2.2 := by
  obtain ⟨hM, hZ, hG, hc⟩ := h
  have hm : iv_m off (u - 1) F k := by have := hM k hk; rw [if_neg (by omega)] at this; exact this
  have hmu := im_t (show u - 1 ≤ u by omega) hm
  by_cases h40 : nI u = F 2 k + 40
  · rw [dm_rc h40]
    unfold rc_F
    by_cases he : is_en (F 10 k)
    · rw [if_pos he]
      exact ⟨dv_up hk (fun _ _ _ => rfl) hM hmu, hZ, hG, hc⟩
    · rw [if_neg he]
      have hne : ∀ q j, j ≠ k → up_F (up_F F 12 k (rv_I F k)) 10 k 5 q j = F q j := fun q j hj => by rw [up_ni hj, up_ni hj]
      refine ⟨dv_up hk hne hM ?_, dv_z hk hne hZ, hG, ia_0.mpr (ia_same hk hne (by simp [up_at]) (by simp [up_at]) (by simp [up_at]) (ia_0.mp hc))⟩
      have h5 : (5 : Int32).toInt = 5 := rfl
      obtain ⟨a1, a2, a3, a4, a5, a6, a7, a8, a9, a10, a11, a12, a13, a14⟩ := hmu
      unfold iv_m
      simp only [up_at]
      exact ⟨a1, a2, a3, a4, a5, a6, a7, a8, a9, by simp [h5], a11, by simp [h5], a13, a14⟩
  · by_cases hq : is_eq (nI u) (F 2 k) ∧ is_aw (F 10 k)
    · rw [dm_eq h40 hq.1 hq.2]
      have hne : ∀ q j, j ≠ k → up_F (up_F F 13 k (F 13 k + 1)) 10 k 4 q j = F q j := fun q j hj => by rw [up_ni hj, up_ni hj]
      have h1 : (1 : Int32).toInt = 1 := rfl
      have h4 : (4 : Int32).toInt = 4 := rfl
      have hdu := du_s hu hm.2.2.1 hu2 hq.1
      have hdl := du_le u (F 2 k)
      obtain ⟨a1, a2, a3, a4, a5, a6, a7, a8, a9, a10, a11, a12, a13, a14⟩ := hm
      have h13 : (F 13 k + 1).toInt = (F 13 k).toInt + 1 := by rw [i_add] <;> omega
      have h10 : ¬ (F 10 k).toInt = 5 := by
        rcases hq.2 with q | q <;> rw [q] <;> decide
      refine ⟨dv_up hk hne hM ?_, dv_z hk hne hZ, ig_sn hG (ix_nI (by omega) hk) (by omega) (by decide), ia_0.mpr (ia_s4 (ia_F (b := 1) (f := 1) hk hne ?_ ?_ (ia_0.mp hc)))⟩
      · unfold iv_m
        simp only [up_at]
        exact ⟨a1, a2, a3, a4, a5, a6, a7, a8, a9, by simp [h4], a11, by simp [h4]; exact a12 h10, by simp [h13]; omega, a14⟩
      · have e1 := i_cl (a := F 13 k) a13.1
        have e2 := i_cl (a := F 13 k + 1) (by omega)
        simp only [wt_N, up_at]
        simp
        omega
      · have e1 := i_cl (a := F 13 k) a13.1
        have e2 := i_cl (a := F 13 k + 1) (by omega)
        simp only [en_N, up_at]
        simp
        omega
    · rw [dm_no h40 hq]
      exact ⟨dv_up hk (fun _ _ _ => rfl) hM hmu, hZ, hG, hc⟩
theorem dv_d (hn20 : nm ≤ 20) (hu : 1 ≤ u) (hu2 : u ≤ 10000) (h : iv_d off nm u 0 g F R) : ∀ n, n ≤ nm → iv_d off nm u n (dy_d (nI u) n (g, c, F, R)).1 (dy_d (nI u) n (g, c, F, R)).2.2.1 (dy_d (nI u) n (g, c, F, R)).2.2.2 := by
  intro n
  induction n with
  | zero => intro _; exact h
  | succ n ih =>
    intro hn
    have h1 := ih (by omega)
    have h2 := dv_m (c := (dy_d (nI u) n (g, c, F, R)).2.1) (k := n) (by omega) hn20 hu hu2 h1
    exact h2
theorem dv_0 (hu : 1 ≤ u) (hM : ∀ i, i < nm → iv_m off (u - 1) F i) (hZ : ∀ i, nm ≤ i → iv_z F i) (hG : ∀ j, j < g → iv_g nm R j) (hc : iv_c nm g F R) : iv_d off nm u 0 g F R :=
  ⟨fun i hi => by rw [if_neg (by omega)]; exact hM i hi, hZ, hG, hc⟩
theorem dv_n (h : iv_d off nm u nm g F R) : ∀ i, i < nm → iv_m off u F i := fun i hi => by have := h.1 i hi; rw [if_pos hi] at this; exact this
/-- what passing the day asks -/
theorem dv_ok (hk : k < nm) (hn20 : nm ≤ 20) (hu : 1 ≤ u) (hu2 : u ≤ 10000) (h : iv_d off nm u k g F R) : dk_ok (nI u) k (g, c, F, R) := by
  obtain ⟨hM, hZ, hG, hc⟩ := h
  have hm : iv_m off (u - 1) F k := by have := hM k hk; rw [if_neg (by omega)] at this; exact this
  refine ⟨m_4 hm, hm.2.2.1, fun hq ha => ?_⟩
  have hdu := du_s hu hm.2.2.1 hu2 hq
  have hdl := du_le u (F 2 k)
  have hM2 : ∀ i, i < nm → iv_m off u F i := fun i hi => im_t (by split <;> omega) (hM i hi)
  have := cn_en hM2 hc hk (by have := hm.2.2.2.2.2.2.2.2.2.2.2.2.1.2; omega)
  show g < 200
  omega
end DV
