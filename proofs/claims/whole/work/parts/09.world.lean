-- WORLDS: the cells of the class's object, and of the reference's, out of the pure state
def mv_L (F : Nat → Nat → Int32) (i : Nat) : List Value := [.int (F 0 i), .int (F 1 i), .int (F 2 i), .int (F 3 i), .int (F 4 i), .int (F 5 i), .int (F 6 i), .int (F 7 i), .int (F 8 i), .int (F 9 i), .int (F 10 i), .int (F 11 i), .int (F 12 i), .int (F 13 i), .int (F 14 i), .int (F 15 i), .int (F 16 i), .int (F 17 i), .int (F 18 i)]
def ms_L (R : Nat → Int32) (j : Nat) : List Value := [.int (R (7 * j)), .int (R (7 * j + 1)), .int (R (7 * j + 2)), .int (R (7 * j + 3)), .int (R (7 * j + 4)), .int (R (7 * j + 5)), .int (R (7 * j + 6))]
def rf_s (p : Nat → Nat) (n : Nat) : Nat → Option Nat := fun i => if i < n then some (p i) else none
def ws_M (pm : Nat → Nat) (F : Nat → Nat → Int32) (n : Nat) : va_W := (List.range n).map (fun i => (pm i, .inr (1, mv_L F i)))
def ws_G (pg : Nat → Nat) (R : Nat → Int32) (n : Nat) : va_W := (List.range n).map (fun j => (pg j, .inr (2, ms_L R j)))
def ws_C (cM cG : ClassId) (o am ag : Nat) (pm pg : Nat → Nat) (σ : st_T) : va_W := match σ with
  | (off, nm, ng, now, F, R) => (o, .inr (0, [.int off, .ref am, .ref ag, .int (nI nm), .int (nI ng), .int now])) :: (am, .inl (cM, 20, .inr (.inr (.inr (.inr (rf_s pm nm)))))) :: (ag, .inl (cG, 200, .inr (.inr (.inr (.inr (rf_s pg ng)))))) :: (ws_M pm F nm ++ ws_G pg R ng)
def ws_N (cI : ClassId) (r rr : Nat) (ra : Nat → Nat) (th : Int32) (Sr : Nat → Int32) (σ : st_T) : va_W := match σ with
  | (off, nm, ng, now, F, R) => (r, .inr (3, [.int th, .int off, .int (nI nm), .int (nI ng), .int now, .ref (ra 0), .ref (ra 1), .ref (ra 2), .ref (ra 3), .ref (ra 4), .ref (ra 5), .ref (ra 6), .ref (ra 7), .ref (ra 8), .ref (ra 9), .ref (ra 10), .ref (ra 11), .ref (ra 12), .ref (ra 13), .ref (ra 14), .ref (ra 15), .ref (ra 16), .ref (ra 17), .ref (ra 18), .ref rr])) :: (rr, .inl (cI, 2800, .inl R)) :: [(ra 0, .inl (cI, 20, .inl (F 0))), (ra 1, .inl (cI, 20, .inl (F 1))), (ra 2, .inl (cI, 20, .inl (F 2))), (ra 3, .inl (cI, 20, .inl (F 3))), (ra 4, .inl (cI, 20, .inl (F 4))), (ra 5, .inl (cI, 20, .inl (F 5))), (ra 6, .inl (cI, 20, .inl (F 6))), (ra 7, .inl (cI, 20, .inl Sr)), (ra 8, .inl (cI, 20, .inl (F 8))), (ra 9, .inl (cI, 20, .inl (F 9))), (ra 10, .inl (cI, 20, .inl (F 10))), (ra 11, .inl (cI, 20, .inl (F 11))), (ra 12, .inl (cI, 20, .inl (F 12))), (ra 13, .inl (cI, 20, .inl (F 13))), (ra 14, .inl (cI, 20, .inl (F 14))), (ra 15, .inl (cI, 20, .inl (F 15))), (ra 16, .inl (cI, 20, .inl (F 16))), (ra 17, .inl (cI, 20, .inl (F 17))), (ra 18, .inl (cI, 20, .inl (F 18)))]
section WC
variable {cM cG : ClassId} {o am ag : Nat} {pm pg : Nat → Nat} {off now : Int32} {nm ng : Nat} {F : Nat → Nat → Int32} {R : Nat → Int32}
theorem mv_at {i : Nat} (h : i < nm) : (ws_C cM cG o am ag pm pg (off, nm, ng, now, F, R))[i + 3]? = some (pm i, .inr (1, mv_L F i)) := by
  show (ws_M pm F nm ++ ws_G pg R ng)[i]? = _
  rw [List.getElem?_append_left (by simp [ws_M, h])]
  simp [ws_M, h]
theorem ms_at {j : Nat} (h : j < ng) : (ws_C cM cG o am ag pm pg (off, nm, ng, now, F, R))[nm + j + 3]? = some (pg j, .inr (2, ms_L R j)) := by
  show (ws_M pm F nm ++ ws_G pg R ng)[nm + j]? = _
  rw [List.getElem?_append_right (by simp [ws_M])]
  simp [ws_M, ws_G, h]
theorem mv_up (F : Nat → Nat → Int32) (i : Nat) (v : Int32) : ∀ k, k < 19 → (mv_L F i).set k (.int v) = mv_L (up_F F k i v) i := by
  intro k hk
  match k, hk with
  | 0, _ => simp [mv_L, up_at]
  | 1, _ => simp [mv_L, up_at]
  | 2, _ => simp [mv_L, up_at]
  | 3, _ => simp [mv_L, up_at]
  | 4, _ => simp [mv_L, up_at]
  | 5, _ => simp [mv_L, up_at]
  | 6, _ => simp [mv_L, up_at]
  | 7, _ => simp [mv_L, up_at]
  | 8, _ => simp [mv_L, up_at]
  | 9, _ => simp [mv_L, up_at]
  | 10, _ => simp [mv_L, up_at]
  | 11, _ => simp [mv_L, up_at]
  | 12, _ => simp [mv_L, up_at]
  | 13, _ => simp [mv_L, up_at]
  | 14, _ => simp [mv_L, up_at]
  | 15, _ => simp [mv_L, up_at]
  | 16, _ => simp [mv_L, up_at]
  | 17, _ => simp [mv_L, up_at]
  | 18, _ => simp [mv_L, up_at]
  | k + 19, h => omega
theorem mv_ni {F F1 : Nat → Nat → Int32} {i j : Nat} (h : ∀ k, F1 k j = F k j) : mv_L F1 j = mv_L F j := by simp only [mv_L, h]
theorem mv_set {F1 : Nat → Nat → Int32} {i : Nat} (h : i < nm) (hj : ∀ k j, j ≠ i → F1 k j = F k j) : (ws_C cM cG o am ag pm pg (off, nm, ng, now, F, R)).set (i + 3) (pm i, .inr (1, mv_L F1 i)) = ws_C cM cG o am ag pm pg (off, nm, ng, now, F1, R) := by
  show _ :: _ :: _ :: (ws_M pm F nm ++ ws_G pg R ng).set i _ = _
  have e : (ws_M pm F nm ++ ws_G pg R ng).set i (pm i, .inr (1, mv_L F1 i)) = ws_M pm F1 nm ++ ws_G pg R ng := by
    rw [List.set_append_left _ _ (by simp [ws_M, h])]
    congr 1
    apply List.ext_getElem?
    intro j
    rw [List.getElem?_set]
    by_cases hij : i = j
    · subst hij; simp [ws_M, h]
    · simp only [hij, if_false, ws_M, List.getElem?_map]
      by_cases hjn : j < nm
      · simp [hjn, mv_ni (F := F) (F1 := F1) (i := i) (fun k => hj k j (fun q => hij q.symm))]
      · simp [hjn]
  rw [e]
  rfl
theorem mv_put {i k : Nat} {v : Int32} (h : i < nm) (hk : k < 19) : (ws_C cM cG o am ag pm pg (off, nm, ng, now, F, R)).set (i + 3) (pm i, .inr (1, (mv_L F i).set k (.int v))) = ws_C cM cG o am ag pm pg (off, nm, ng, now, up_F F k i v, R) := by
  rw [mv_up F i v k hk]
  exact mv_set h (fun k' j hj => up_ni hj)
theorem ms_ni {R R1 : Nat → Int32} {j : Nat} (h : ∀ k, k < 7 → R1 (7 * j + k) = R (7 * j + k)) : ms_L R1 j = ms_L R j := by
  have h0 := h 0 (by omega)
  simp only [Nat.add_zero] at h0
  simp only [ms_L, h0, h 1 (by omega), h 2 (by omega), h 3 (by omega), h 4 (by omega), h 5 (by omega), h 6 (by omega)]
theorem ms_put {j : Nat} {v : Int32} (h : j < ng) : (ws_C cM cG o am ag pm pg (off, nm, ng, now, F, R)).set (nm + j + 3) (pg j, .inr (2, (ms_L R j).set 6 (.int v))) = ws_C cM cG o am ag pm pg (off, nm, ng, now, F, upd R (7 * j + 6) v) := by
  show _ :: _ :: _ :: (ws_M pm F nm ++ ws_G pg R ng).set (nm + j) _ = _
  have e : (ws_M pm F nm ++ ws_G pg R ng).set (nm + j) (pg j, .inr (2, (ms_L R j).set 6 (.int v))) = ws_M pm F nm ++ ws_G pg (upd R (7 * j + 6) v) ng := by
    rw [List.set_append_right _ _ (by simp [ws_M])]
    congr 1
    apply List.ext_getElem?
    intro i
    rw [List.getElem?_set]
    have hl : (ws_M pm F nm).length = nm := by simp [ws_M]
    rw [hl, Nat.add_sub_cancel_left]
    by_cases hij : j = i
    · subst hij
      simp [ws_G, h, ms_L, upd]
    · simp only [hij, if_false, ws_G, List.getElem?_map]
      by_cases hjn : i < ng
      · have : ms_L (upd R (7 * j + 6) v) i = ms_L R i := ms_ni (fun k hk => upd_n (by omega))
        simp [hjn, this]
      · simp [hjn]
  rw [e]
  rfl
theorem rf_at {p : Nat → Nat} {n i : Nat} (h : i < n) : rf_s p n i = some (p i) := by simp [rf_s, h]
theorem rf_no {p : Nat → Nat} {n i : Nat} (h : n ≤ i) : rf_s p n i = none := by simp [rf_s, Nat.not_lt.mpr h]
theorem rf_up (p : Nat → Nat) (n q : Nat) : va_up (rf_s p n) n (some q) = rf_s (va_up p n q) (n + 1) := by
  funext i
  simp only [va_up, rf_s]
  by_cases h : i = n
  · subst h; simp
  · by_cases h2 : i < n
    · have : i < n + 1 := by omega
      simp [h, h2, this]
    · have : ¬ i < n + 1 := by omega
      simp [h, h2, this]
theorem ws_Gp {q : Nat} {R1 : Nat → Int32} (h : ∀ k, k < 7 * ng → R1 k = R k) : ws_G pg R ng ++ [(q, .inr (2, ms_L R1 ng))] = ws_G (va_up pg ng q) R1 (ng + 1) := by
  simp only [ws_G, List.range_succ, List.map_append, List.map_cons, List.map_nil, va_up_self]
  congr 1
  apply List.map_congr_left
  intro j hj
  have hj : j < ng := List.mem_range.mp hj
  have e1 : va_up pg ng q j = pg j := by simp only [va_up]; rw [if_neg (by omega)]
  rw [e1, ms_ni (R := R) (R1 := R1) (fun k hk => h _ (by omega))]
theorem ws_Mp {q : Nat} {F1 : Nat → Nat → Int32} (h : ∀ k j, j ≠ nm → F1 k j = F k j) : ws_M pm F nm ++ [(q, .inr (1, mv_L F1 nm))] = ws_M (va_up pm nm q) F1 (nm + 1) := by
  simp only [ws_M, List.range_succ, List.map_append, List.map_cons, List.map_nil, va_up_self]
  congr 1
  apply List.map_congr_left
  intro j hj
  have hj : j < nm := List.mem_range.mp hj
  have e1 : va_up pm nm q j = pm j := by simp only [va_up]; rw [if_neg (by omega)]
  rw [e1, mv_ni (F := F) (F1 := F1) (i := nm) (fun k => h k j (by omega))]
end WC
def sr_L : List (Nat × String) := [(40, "a movement needs two offices"), (49, "the limit is ahead of now or too high"), (53, "seal, pieces or amount can't be"), (57, "there is no room for another movement"), (70, "no such movement, office or seal"), (102, "no such movement, or found can't be"), (117, "no such office or message"), (132, "the day is ahead of now or too high"), (141, "no such movement, or n is below 1"), (150, "no such movement"), (183, "no such what"), (185, "no such movement or office"), (193, "no such message")]
def nx_L : List Cond := [.declares (Bundle.initS "java/lang/RuntimeException"), .declares (Bundle.initS "java/lang/Exception"), .declares (Bundle.initS "java/lang/Throwable"), .castable "java/lang/IllegalArgumentException" "java/lang/IllegalArgumentException", .castable "java/lang/IllegalStateException" "java/lang/IllegalStateException", .castable "java/lang/IndexOutOfBoundsException" "java/lang/IndexOutOfBoundsException"]
abbrev ty_L (cM cG cI cJ : ClassId) : List (ClassId × FieldType) := [(cM, .object "TransitSteps$Movement"), (cG, .object "TransitSteps$Message"), (cI, .int), (cJ, .long)]
abbrev nb_w : Cond := .methodLinkNest R_V 74 y_T_bit R_T
abbrev nd_w : Cond := .fieldLinkNest R_V 78 "TransitSteps" "DUE_BEHIND_LIMIT" "[I" R_T
/-- what the tables say, in every state of the run -/
def yt_P (D : va_G) (cM cG cI cJ : ClassId) (U : State) : Prop := va_K D cl_L (ty_L cM cG cI cJ) U ∧ va_Nw nb_w U ∧ va_Nw nd_w U ∧ (∀ q ∈ sr_L, ∃ a : Nat, vk_R R_T q.1 q.2 a U) ∧ va_AO "TransitSteps$Movement" U ∧ va_AO "TransitSteps$Message" U ∧ (∀ w ∈ nx_L, va_Nw w U) ∧ va_Nc "java/lang/IllegalStateException" "java/lang/IllegalArgumentException" U
theorem yt_Y (D : va_G) (cM cG cI cJ : ClassId) : is_Y (yt_P D cM cG cI cJ) := by
  intro u U hW h
  obtain ⟨h1, h2, h3, h4, h5, h6, h7, h8⟩ := h
  refine ⟨va_K.moved hW.alike h1, va_Nw.warmM hW h2, va_Nw.warmF hW h3, fun q hq => ?_, va_AO.moved hW.alike h5, va_AO.moved hW.alike h6, fun w hw => ?_, va_Nc.moved hW.alike h8⟩
  · obtain ⟨a, ha⟩ := h4 q hq
    exact ⟨a, vk_R.warm hW ha⟩
  · have hz := h7 w hw
    simp only [nx_L, List.mem_cons, List.not_mem_nil, or_false] at hw
    rcases hw with rfl | rfl | rfl | rfl | rfl | rfl
    · exact va_Nw.warmD hW hz
    · exact va_Nw.warmD hW hz
    · exact va_Nw.warmD hW hz
    · exact va_Nw.warmC hW hz
    · exact va_Nw.warmC hW hz
    · exact va_Nw.warmC hW hz
