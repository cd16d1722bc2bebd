-- THE PURE STATE: what both the class and the reference hold. off offices; nm movements; ng messages; now; F k i: field k of movement i; R: rows of seven
abbrev st_T : Type := Int32 × Nat × Nat × Int32 × (Nat → Nat → Int32) × (Nat → Int32)
def up_F (F : Nat → Nat → Int32) (k i : Nat) (v : Int32) : Nat → Nat → Int32 := fun k' => if k' = k then upd (F k) i v else F k'
theorem up_ss (F : Nat → Nat → Int32) (k i : Nat) (v : Int32) : up_F F k i v k i = v := by simp [up_F, upd]
theorem up_sk (F : Nat → Nat → Int32) (k i : Nat) (v : Int32) : up_F F k i v k = upd (F k) i v := by simp [up_F]
theorem up_nk {F : Nat → Nat → Int32} {k k' i : Nat} {v : Int32} (h : k' ≠ k) : up_F F k i v k' = F k' := by simp [up_F, h]
theorem up_ni {F : Nat → Nat → Int32} {k k' i j : Nat} {v : Int32} (h : j ≠ i) : up_F F k i v k' j = F k' j := by
  unfold up_F
  by_cases hk : k' = k
  · subst hk; simp [upd, h]
  · simp [hk]
theorem up_at (F : Nat → Nat → Int32) (k k' i : Nat) (v : Int32) : up_F F k i v k' i = if k' = k then v else F k' i := by
  unfold up_F
  by_cases hk : k' = k
  · subst hk; simp [upd]
  · simp [hk]
theorem up_id {F : Nat → Nat → Int32} {k i : Nat} {v : Int32} (h : F k i = v) : up_F F k i v = F := by
  funext k' j
  unfold up_F
  by_cases hk : k' = k
  · subst hk
    simp only [if_true, upd]
    by_cases hj : j = i
    · subst hj; simp [h]
    · simp [hj]
  · simp [hk]
theorem up_co {F : Nat → Nat → Int32} {k k' i j : Nat} {v w : Int32} (h : k ≠ k') : up_F (up_F F k i v) k' j w = up_F (up_F F k' j w) k i v := by
  funext a b
  simp only [up_F, upd]
  by_cases h1 : a = k'
  · subst h1
    have h2 : ¬ a = k := fun q => h q.symm
    simp [h2]
  · by_cases h2 : a = k
    · subst h2; simp [h1]
    · simp [h1, h2]
theorem upd_s (f : Nat → Int32) (k : Nat) (v : Int32) : upd f k v k = v := by simp [upd]
theorem upd_n {f : Nat → Int32} {k j : Nat} {v : Int32} (h : j ≠ k) : upd f k v j = f j := by simp [upd, h]
theorem upd_i {f : Nat → Int32} {k : Nat} {v : Int32} (h : f k = v) : upd f k v = f := by
  funext j
  simp only [upd]
  by_cases hj : j = k
  · subst hj; simp [h]
  · simp [hj]
/-- a message is sent: seven numbers at the end of the rows -/
def sn_R (R : Nat → Int32) (g : Nat) (a b c d e f : Int32) : Nat → Int32 := upd (upd (upd (upd (upd (upd (upd R (7 * g) a) (7 * g + 1) b) (7 * g + 2) c) (7 * g + 3) d) (7 * g + 4) e) (7 * g + 5) f) (7 * g + 6) 0
theorem sn_0 (R : Nat → Int32) (g : Nat) (a b c d e f : Int32) : sn_R R g a b c d e f (7 * g) = a := by simp [sn_R, upd]
theorem sn_1 (R : Nat → Int32) (g : Nat) (a b c d e f : Int32) : sn_R R g a b c d e f (7 * g + 1) = b := by simp [sn_R, upd]
theorem sn_2 (R : Nat → Int32) (g : Nat) (a b c d e f : Int32) : sn_R R g a b c d e f (7 * g + 2) = c := by simp [sn_R, upd]
theorem sn_3 (R : Nat → Int32) (g : Nat) (a b c d e f : Int32) : sn_R R g a b c d e f (7 * g + 3) = d := by simp [sn_R, upd]
theorem sn_4 (R : Nat → Int32) (g : Nat) (a b c d e f : Int32) : sn_R R g a b c d e f (7 * g + 4) = e := by simp [sn_R, upd]
theorem sn_5 (R : Nat → Int32) (g : Nat) (a b c d e f : Int32) : sn_R R g a b c d e f (7 * g + 5) = f := by simp [sn_R, upd]
theorem sn_6 (R : Nat → Int32) (g : Nat) (a b c d e f : Int32) : sn_R R g a b c d e f (7 * g + 6) = 0 := by simp [sn_R, upd]
theorem sn_o {R : Nat → Int32} {g j : Nat} {a b c d e f : Int32} (h : j < 7 * g) : sn_R R g a b c d e f j = R j := by
  have h0 : ¬ j = 7 * g := by omega
  have h1 : ¬ j = 7 * g + 1 := by omega
  have h2 : ¬ j = 7 * g + 2 := by omega
  have h3 : ¬ j = 7 * g + 3 := by omega
  have h4 : ¬ j = 7 * g + 4 := by omega
  have h5 : ¬ j = 7 * g + 5 := by omega
  have h6 : ¬ j = 7 * g + 6 := by omega
  simp [sn_R, upd, h0, h1, h2, h3, h4, h5, h6]
abbrev is_of (off o : Int32) : Prop := ¬ o < 0 ∧ o < off
abbrev is_wi (x lo hi : Int32) : Prop := ¬ x < lo ∧ ¬ hi < x
abbrev is_ix (n : Nat) (m : Int32) : Prop := ¬ m < 0 ∧ m < nI n
abbrev is_aw (x : Int32) : Prop := x = 1 ∨ x = 4
abbrev is_en (x : Int32) : Prop := x = 5 ∨ x = 6
/-- a movement begins: column i is written; what isn't written there is 0 already -/
def nw_F (F : Nat → Nat → Int32) (i : Nat) (a b d s n v : Int32) : Nat → Nat → Int32 :=
  up_F (up_F (up_F (up_F (up_F (up_F (up_F (up_F (up_F (up_F (up_F (up_F (up_F F 0 i a) 1 i b) 2 i d) 3 i s) 4 i n) 5 i v) 6 i (-1)) 7 i (-1)) 9 i (-1)) 10 i 1) 14 i (-1)) 15 i (-1)) 16 i (-1)
def sp_mv (σ : st_T) (a b d s n v : Int32) : Int32 × Int32 × st_T := match σ with
  | (off, nm, ng, now, F, R) =>
    if is_of off a ∧ is_of off b ∧ ¬ a = b ∧ is_wi d now 10000 ∧ is_wi s 1 1000000000 ∧ is_wi n 1 1000 ∧ is_wi v 0 1000000 then
      if nm = 20 then (2, 0, (off, nm, ng, now, F, R)) else (0, nI nm, (off, nm + 1, ng + 1, now, nw_F F nm a b d s n v, sn_R R ng 1 (nI nm) a b n d))
    else (1, 0, (off, nm, ng, now, F, R))
def sp_ar (σ : st_T) (m o s : Int32) : Int32 × Int32 × st_T := match σ with
  | (off, nm, ng, now, F, R) =>
    if is_ix nm m ∧ is_of off o ∧ is_wi s 0 1000000000 then
      if ¬ F 6 m.toNatClampNeg = -1 ∨ o = F 0 m.toNatClampNeg ∨ F 10 m.toNatClampNeg = 6 then (0, 0, (off, nm, ng, now, F, R))
      else if o = F 1 m.toNatClampNeg then
        (0, 1, (off, nm, ng + 1, now, up_F (up_F (up_F F 6 m.toNatClampNeg o) 7 m.toNatClampNeg s) 8 m.toNatClampNeg (if F 2 m.toNatClampNeg < now then 1 else 0), sn_R R ng 2 m o (F 0 m.toNatClampNeg) s (if F 2 m.toNatClampNeg < now then 1 else 0)))
      else (0, 1, (off, nm, ng + 1 + 1, now, up_F (up_F (up_F F 6 m.toNatClampNeg o) 7 m.toNatClampNeg s) 8 m.toNatClampNeg (if F 2 m.toNatClampNeg < now then 1 else 0), sn_R (sn_R R ng 2 m o (F 0 m.toNatClampNeg) s (if F 2 m.toNatClampNeg < now then 1 else 0)) (ng + 1) 6 m o (F 1 m.toNatClampNeg) o 0))
    else (1, 0, (off, nm, ng, now, F, R))
def sp_co (σ : st_T) (m n : Int32) : Int32 × Int32 × st_T := match σ with
  | (off, nm, ng, now, F, R) =>
    if is_ix nm m ∧ is_wi n 0 1000 then
      if F 6 m.toNatClampNeg = -1 ∨ ¬ F 9 m.toNatClampNeg = -1 then (0, 0, (off, nm, ng, now, F, R))
      else (0, 1, (off, nm, ng + 1, now, up_F F 9 m.toNatClampNeg n, sn_R R ng 3 m (F 6 m.toNatClampNeg) (F 0 m.toNatClampNeg) n (F 7 m.toNatClampNeg)))
    else (1, 0, (off, nm, ng, now, F, R))
def la_F (F : Nat → Nat → Int32) (i : Nat) (a b : Int32) : Nat → Nat → Int32 :=
  if is_aw (F 10 i) then up_F (up_F (up_F F 14 i a) 15 i b) 10 i 2 else up_F (up_F F 14 i a) 15 i b
def mn_I (x y : Int32) : Int32 := if y < x then y else x
def mx_I (x y : Int32) : Int32 := if x < y then y else x
def lr_F (F : Nat → Nat → Int32) (i : Nat) (n s : Int32) : Nat → Nat → Int32 :=
  if is_en (F 10 i) then up_F (up_F F 16 i n) 14 i s
  else up_F (up_F (up_F (up_F F 16 i n) 14 i s) 11 i (mx_I (F 11 i) (mn_I n (F 4 i)))) 10 i (if s = F 3 i ∧ n = F 4 i then 6 else 3)
/-- the destination's answer to an enquiry about movement i, whose number is m -/
def an_R (F : Nat → Nat → Int32) (R : Nat → Int32) (ng i : Nat) (m : Int32) : Nat → Int32 :=
  if F 6 i = F 1 i then
    if F 9 i = -1 then sn_R R ng 2 m (F 6 i) (F 0 i) (F 7 i) (F 8 i) else sn_R R ng 3 m (F 6 i) (F 0 i) (F 9 i) (F 7 i)
  else sn_R R ng 5 m (F 1 i) (F 0 i) (F 17 i) (F 18 i)
/-- what comes of message g when it is received (its row's last number is 1 already) -/
def ac_S (σ : st_T) (g : Nat) : st_T := match σ with
  | (off, nm, ng, now, F, R) =>
    if R (7 * g) = 1 then (off, nm, ng, now, up_F F 17 (R (7 * g + 1)).toNatClampNeg 1, R)
    else if R (7 * g) = 2 then (off, nm, ng, now, la_F F (R (7 * g + 1)).toNatClampNeg (R (7 * g + 4)) (R (7 * g + 5)), R)
    else if R (7 * g) = 3 then (off, nm, ng, now, lr_F F (R (7 * g + 1)).toNatClampNeg (R (7 * g + 4)) (R (7 * g + 5)), R)
    else if R (7 * g) = 4 then (off, nm, ng + 1, now, F, an_R F R ng (R (7 * g + 1)).toNatClampNeg (R (7 * g + 1)))
    else if R (7 * g) = 6 then (off, nm, ng, now, up_F F 18 (R (7 * g + 1)).toNatClampNeg 1, R)
    else (off, nm, ng, now, F, R)
def sp_re (σ : st_T) (o j : Int32) : Int32 × Int32 × st_T := match σ with
  | (off, nm, ng, now, F, R) =>
    if is_of off o ∧ is_ix ng j then
      if ¬ R (7 * j.toNatClampNeg + 6) = 0 ∨ ¬ R (7 * j.toNatClampNeg + 3) = o then (0, 0, (off, nm, ng, now, F, R))
      else (0, 1, ac_S (off, nm, ng, now, F, upd R (7 * j.toNatClampNeg + 6) 1) j.toNatClampNeg)
    else (1, 0, (off, nm, ng, now, F, R))
def sp_lo (σ : st_T) (j : Int32) : Int32 × st_T := match σ with
  | (off, nm, ng, now, F, R) =>
    if is_ix ng j ∧ R (7 * j.toNatClampNeg + 6) = 0 then (1, (off, nm, ng, now, F, upd R (7 * j.toNatClampNeg + 6) 2)) else (0, (off, nm, ng, now, F, R))
/-- what is recovered of a movement -/
def rv_I (F : Nat → Nat → Int32) (i : Nat) : Int32 := (F 5 i * (F 4 i - F 11 i) + F 4 i - 1) / F 4 i
/-- days: how many messages there are, how many were sent, columns, rows -/
abbrev dy_T : Type := Nat × Int32 × (Nat → Nat → Int32) × (Nat → Int32)
abbrev is_eq (d l : Int32) : Prop := d = l + 10 ∨ d = l + 15 ∨ d = l + 20
/-- day d for movement i -/
def dy_m (d : Int32) (i : Nat) (x : dy_T) : dy_T := match x with
  | (ng, c, F, R) =>
    if d = F 2 i + 40 then (if is_en (F 10 i) then (ng, c, F, R) else (ng, c, up_F (up_F F 12 i (rv_I F i)) 10 i 5, R))
    else if is_eq d (F 2 i) ∧ is_aw (F 10 i) then (ng + 1, c + 1, up_F (up_F F 13 i (F 13 i + 1)) 10 i 4, sn_R R ng 4 (nI i) (F 0 i) (F 1 i) (F 13 i + 1) 0)
    else (ng, c, F, R)
/-- day d for the first movements -/
def dy_d (d : Int32) : Nat → dy_T → dy_T
  | 0, x => x
  | n + 1, x => dy_m d n (dy_d d n x)
/-- so many days behind day t -/
def dy_s (nm t : Nat) : Nat → dy_T → dy_T
  | 0, x => x
  | n + 1, x => dy_d (nI (t + n + 1)) nm (dy_s nm t n x)
def sp_ti (σ : st_T) (day : Int32) : Int32 × Int32 × st_T := match σ with
  | (off, nm, ng, now, F, R) =>
    if is_wi day now 10000 then
      (0, (dy_s nm now.toNatClampNeg (day.toNatClampNeg - now.toNatClampNeg) (ng, 0, F, R)).2.1, (off, nm, (dy_s nm now.toNatClampNeg (day.toNatClampNeg - now.toNatClampNeg) (ng, 0, F, R)).1, day, (dy_s nm now.toNatClampNeg (day.toNatClampNeg - now.toNatClampNeg) (ng, 0, F, R)).2.2.1, (dy_s nm now.toNatClampNeg (day.toNatClampNeg - now.toNatClampNeg) (ng, 0, F, R)).2.2.2))
    else (1, 0, (off, nm, ng, now, F, R))
def sp_di (σ : st_T) (m n : Int32) : Int32 × Int32 × st_T := match σ with
  | (off, nm, ng, now, F, R) =>
    if is_ix nm m ∧ ¬ n < 1 then
      if ¬ F 10 m.toNatClampNeg = 3 ∨ F 4 m.toNatClampNeg - F 11 m.toNatClampNeg < n then (0, -1, (off, nm, ng, now, F, R))
      else if F 4 m.toNatClampNeg - (F 11 m.toNatClampNeg + n) = 0 then (0, F 4 m.toNatClampNeg - (F 11 m.toNatClampNeg + n), (off, nm, ng, now, up_F (up_F F 11 m.toNatClampNeg (F 11 m.toNatClampNeg + n)) 10 m.toNatClampNeg 6, R))
      else (0, F 4 m.toNatClampNeg - (F 11 m.toNatClampNeg + n), (off, nm, ng, now, up_F F 11 m.toNatClampNeg (F 11 m.toNatClampNeg + n), R))
    else (1, 0, (off, nm, ng, now, F, R))
def sp_pr (σ : st_T) (m : Int32) : Int32 × Int32 × st_T := match σ with
  | (off, nm, ng, now, F, R) =>
    if is_ix nm m then
      if ¬ is_en (F 10 m.toNatClampNeg) then (0, 1, (off, nm, ng, now, up_F F 10 m.toNatClampNeg 6, R))
      else if F 10 m.toNatClampNeg = 5 ∧ ¬ F 2 m.toNatClampNeg + 70 < now then (0, 2, (off, nm, ng, now, up_F (up_F F 10 m.toNatClampNeg 6) 12 m.toNatClampNeg 0, R))
      else (0, 0, (off, nm, ng, now, F, R))
    else (1, 0, (off, nm, ng, now, F, R))
/-- the answers that change nothing: (thrown, value) -/
def sp_st (σ : st_T) (m w : Int32) : Int32 × Int32 := match σ with
  | (_, nm, _, _, F, _) =>
    if is_ix nm m then
      if w = 0 then (0, F 10 m.toNatClampNeg) else if w = 1 then (0, F 11 m.toNatClampNeg) else if w = 2 then (0, F 12 m.toNatClampNeg)
      else if w = 3 then (0, F 13 m.toNatClampNeg) else if w = 4 then (0, F 14 m.toNatClampNeg) else if w = 5 then (0, F 15 m.toNatClampNeg)
      else if w = 6 then (0, F 16 m.toNatClampNeg) else if w = 7 then (0, if F 16 m.toNatClampNeg = -1 then -1 else F 4 m.toNatClampNeg - F 16 m.toNatClampNeg)
      else if w = 8 then (0, if ¬ F 14 m.toNatClampNeg = -1 ∧ ¬ F 14 m.toNatClampNeg = F 3 m.toNatClampNeg then 1 else 0)
      else (1, 0)
    else (1, 0)
def bt_I (b : Prop) [Decidable b] : Int32 := if b then 1 else 0
def sp_of (σ : st_T) (m o : Int32) : Int32 × Int32 := match σ with
  | (off, nm, _, _, F, _) =>
    if is_ix nm m ∧ is_of off o then
      (0, bt_I (o = F 0 m.toNatClampNeg) + 2 * bt_I (o = F 1 m.toNatClampNeg ∧ ¬ F 17 m.toNatClampNeg = 0) + 4 * bt_I (o = F 1 m.toNatClampNeg ∧ ¬ F 18 m.toNatClampNeg = 0) + 8 * bt_I (o = F 6 m.toNatClampNeg) + 16 * bt_I (o = F 6 m.toNatClampNeg ∧ ¬ F 9 m.toNatClampNeg = -1))
    else (1, 0)
def sp_me (σ : st_T) (j w : Int32) : Int32 × Int32 := match σ with
  | (_, _, ng, _, _, R) => if is_ix ng j ∧ is_wi w 0 6 then (0, R (7 * j.toNatClampNeg + w.toNatClampNeg)) else (1, 0)
def sm_I (f : Nat → Int32) : Nat → Int32
  | 0 => 0
  | n + 1 => sm_I f n + f n
def sp_ct (σ : st_T) (w : Int32) : Int32 := match σ with
  | (off, nm, ng, now, F, R) =>
    if w = 0 then off else if w = 1 then nI nm else if w = 2 then nI ng else if w = 3 then now
    else if w = 4 then sm_I (fun i => if is_en (F 10 i) then 0 else F 5 i) nm
    else if w = 5 then sm_I (fun i => F 12 i) nm
    else if w = 6 then sm_I (fun i => if is_en (F 10 i) then 1 else 0) nm
    else if w = 7 then sm_I (fun j => if R (7 * j + 6) = 0 then 1 else 0) ng
    else -1
