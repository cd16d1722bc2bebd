-- DAYS ON WHICH NOTHING IS DUE
theorem dm_add (d : Int32) (i g : Nat) (a b : Int32) (F : Nat → Nat → Int32) (R : Nat → Int32) : dy_m d i (g, a + b, F, R) = ((dy_m d i (g, b, F, R)).1, a + (dy_m d i (g, b, F, R)).2.1, (dy_m d i (g, b, F, R)).2.2.1, (dy_m d i (g, b, F, R)).2.2.2) := by
  simp only [dy_m]
  split
  · split <;> rfl
  · split
    · simp only [Int32.add_assoc]
    · rfl
theorem dd_add (d : Int32) (g : Nat) (a : Int32) (F : Nat → Nat → Int32) (R : Nat → Int32) : ∀ n, dy_d d n (g, a, F, R) = ((dy_d d n (g, 0, F, R)).1, a + (dy_d d n (g, 0, F, R)).2.1, (dy_d d n (g, 0, F, R)).2.2.1, (dy_d d n (g, 0, F, R)).2.2.2) := by
  intro n
  induction n with
  | zero => show (g, a, F, R) = (g, a + 0, F, R); rw [Int32.add_zero]
  | succ n ih =>
    show dy_m d n (dy_d d n (g, a, F, R)) = _
    rw [ih]
    exact dm_add d n _ a _ _ _
theorem dm_2 (d : Int32) (i : Nat) (x : dy_T) (j : Nat) : (dy_m d i x).2.2.1 2 j = x.2.2.1 2 j := by
  obtain ⟨g, c, F, R⟩ := x
  simp only [dy_m]
  split
  · split
    · rfl
    · show up_F (up_F F 12 i (rv_I F i)) 10 i 5 2 j = F 2 j
      rw [up_nk (by decide), up_nk (by decide)]
  · split
    · show up_F (up_F F 13 i (F 13 i + 1)) 10 i 4 2 j = F 2 j
      rw [up_nk (by decide), up_nk (by decide)]
    · rfl
theorem dd_2 (d : Int32) (x : dy_T) (j : Nat) : ∀ n, (dy_d d n x).2.2.1 2 j = x.2.2.1 2 j := by
  intro n
  induction n with
  | zero => rfl
  | succ n ih => exact (dm_2 d n _ j).trans ih
theorem ds_2 (nm t : Nat) (x : dy_T) (j : Nat) : ∀ n, (dy_s nm t n x).2.2.1 2 j = x.2.2.1 2 j := by
  intro n
  induction n with
  | zero => rfl
  | succ n ih => exact (dd_2 _ _ j nm).trans ih
abbrev is_du (l : Int32) (d : Int) : Prop := d = l.toInt + 10 ∨ d = l.toInt + 15 ∨ d = l.toInt + 20 ∨ d = l.toInt + 40
theorem l_add {l : Int32} (hl : 0 ≤ l.toInt ∧ l.toInt ≤ 10000) : (l + 10).toInt = l.toInt + 10 ∧ (l + 15).toInt = l.toInt + 15 ∧ (l + 20).toInt = l.toInt + 20 ∧ (l + 40).toInt = l.toInt + 40 := by
  have e10 : (10 : Int32).toInt = 10 := rfl
  have e15 : (15 : Int32).toInt = 15 := rfl
  have e20 : (20 : Int32).toInt = 20 := rfl
  have e40 : (40 : Int32).toInt = 40 := rfl
  refine ⟨?_, ?_, ?_, ?_⟩ <;> rw [i_add] <;> omega
theorem dd_no {d : Int32} {x : dy_T} : ∀ n, (∀ i, i < n → (0 ≤ (x.2.2.1 2 i).toInt ∧ (x.2.2.1 2 i).toInt ≤ 10000) ∧ ¬ is_du (x.2.2.1 2 i) d.toInt) → dy_d d n x = x := by
  intro n
  induction n with
  | zero => intro _; rfl
  | succ n ih =>
    intro h
    show dy_m d n (dy_d d n x) = x
    rw [ih (fun i hi => h i (by omega))]
    obtain ⟨g, c, F, R⟩ := x
    obtain ⟨h1, h2⟩ := h n (by omega)
    obtain ⟨b1, b2, b3, b4⟩ := l_add h1
    refine dm_no (fun q => h2 ?_) (fun q => h2 ?_)
    · have := i_eq.mp q; rw [b4] at this; exact Or.inr (Or.inr (Or.inr this))
    · rcases q.1 with q | q | q
      · have := i_eq.mp q; rw [b1] at this; exact Or.inl this
      · have := i_eq.mp q; rw [b2] at this; exact Or.inr (Or.inl this)
      · have := i_eq.mp q; rw [b3] at this; exact Or.inr (Or.inr (Or.inl this))
/-- from day u to day v nothing is due -/
theorem ds_no {nm t : Nat} {x : dy_T} {u : Nat} (hl : ∀ i, i < nm → 0 ≤ (x.2.2.1 2 i).toInt ∧ (x.2.2.1 2 i).toInt ≤ 10000) (htu : t ≤ u) : ∀ v, u ≤ v → v ≤ 10000 → (∀ w : Nat, u < w → w ≤ v → ∀ i, i < nm → ¬ is_du (x.2.2.1 2 i) w) → dy_s nm t (v - t) x = dy_s nm t (u - t) x := by
  intro v
  induction v with
  | zero => intro h _ _; have : u = 0 := by omega
            subst this; rfl
  | succ v ih =>
    intro h hv hn
    by_cases huv : u = v + 1
    · subst huv; rfl
    · have h1 := ih (by omega) (by omega) (fun w h1 h2 => hn w h1 (by omega))
      have e : v + 1 - t = (v - t) + 1 := by omega
      rw [e]
      show dy_d (nI (t + (v - t) + 1)) nm (dy_s nm t (v - t) x) = _
      rw [h1]
      have e2 : t + (v - t) + 1 = v + 1 := by omega
      rw [e2]
      refine dd_no nm (fun i hi => ?_)
      rw [ds_2]
      refine ⟨hl i hi, ?_⟩
      rw [i_nI (by omega)]
      exact hn (v + 1) (by omega) (Nat.le_refl _) i hi
theorem fd_ok {l a : Int32} (hl : 0 ≤ l.toInt ∧ l.toInt ≤ 10000) (ha : 0 ≤ a.toInt ∧ a.toInt ≤ 10000) : a.toInt < (fd_I l a).toInt ∧ ((fd_I l a).toInt = 10001 ∨ is_du l (fd_I l a).toInt) ∧ ∀ d : Int, a.toInt < d → is_du l d → (fd_I l a).toInt ≤ d := by
  obtain ⟨b1, b2, b3, b4⟩ := l_add hl
  have eb : (10001 : Int32).toInt = 10001 := rfl
  simp only [fd_I, i_le, b1, b2, b3, b4]
  split
  · split
    · split
      · split
        · rw [eb]; exact ⟨by omega, Or.inl rfl, fun d h1 h2 => by omega⟩
        · rw [b4]; exact ⟨by omega, by omega, fun d h1 h2 => by omega⟩
      · rw [b3]; exact ⟨by omega, by omega, fun d h1 h2 => by omega⟩
    · rw [b2]; exact ⟨by omega, by omega, fun d h1 h2 => by omega⟩
  · rw [b1]; exact ⟨by omega, by omega, fun d h1 h2 => by omega⟩
theorem mn_t (x y : Int32) : (mn_I x y).toInt = if y.toInt < x.toInt then y.toInt else x.toInt := by
  simp only [mn_I, i_lt]
  split <;> rfl
theorem nd_ok {F : Nat → Nat → Int32} {a : Int32} (ha : 0 ≤ a.toInt ∧ a.toInt ≤ 10000) : ∀ n, (∀ i, i < n → 0 ≤ (F 2 i).toInt ∧ (F 2 i).toInt ≤ 10000) →
    a.toInt < (nd_I F a n).toInt ∧ (nd_I F a n).toInt ≤ 10001 ∧ ((nd_I F a n).toInt = 10001 ∨ ∃ i, i < n ∧ is_du (F 2 i) (nd_I F a n).toInt) ∧ ∀ (d : Int) (i : Nat), a.toInt < d → i < n → is_du (F 2 i) d → (nd_I F a n).toInt ≤ d := by
  intro n
  induction n with
  | zero =>
    intro _
    have eb : (nd_I F a 0).toInt = 10001 := rfl
    rw [eb]
    exact ⟨by omega, by omega, Or.inl rfl, fun d i _ hi => absurd hi (Nat.not_lt_zero i)⟩
  | succ n ih =>
    intro h
    obtain ⟨a1, a2, a3, a4⟩ := ih (fun i hi => h i (by omega))
    obtain ⟨b1, b2, b3⟩ := fd_ok (h n (by omega)) ha
    have e : (nd_I F a (n + 1)).toInt = if (fd_I (F 2 n) a).toInt < (nd_I F a n).toInt then (fd_I (F 2 n) a).toInt else (nd_I F a n).toInt := mn_t _ _
    rw [e]
    by_cases hc : (fd_I (F 2 n) a).toInt < (nd_I F a n).toInt
    · rw [if_pos hc]
      refine ⟨b1, by omega, ?_, fun d i h1 h2 h3 => ?_⟩
      · rcases b2 with b2 | b2
        · exact Or.inl b2
        · exact Or.inr ⟨n, by omega, b2⟩
      · by_cases hin : i = n
        · subst hin; exact b3 d h1 h3
        · have := a4 d i h1 (by omega) h3; omega
    · rw [if_neg hc]
      refine ⟨a1, a2, ?_, fun d i h1 h2 h3 => ?_⟩
      · rcases a3 with a3 | ⟨i, a3, a5⟩
        · exact Or.inl a3
        · exact Or.inr ⟨i, by omega, a5⟩
      · by_cases hin : i = n
        · subst hin; have := b3 d h1 h3; omega
        · exact a4 d i h1 (by omega) h3
/-- how many of the four days of each movement have come -/
def c4_N (u : Nat) (l : Int32) : Nat := (if l.toInt + 10 ≤ u then 1 else 0) + (if l.toInt + 15 ≤ u then 1 else 0) + (if l.toInt + 20 ≤ u then 1 else 0) + (if l.toInt + 40 ≤ u then 1 else 0)
theorem c4_le (u : Nat) (l : Int32) : c4_N u l ≤ 4 := by unfold c4_N; split <;> split <;> split <;> split <;> omega
theorem c4_mo {u v : Nat} (l : Int32) (h : u ≤ v) : c4_N u l ≤ c4_N v l := by
  unfold c4_N
  repeat' split
  all_goals omega
theorem c4_lt {u v : Nat} {l : Int32} (h : u < v) (hd : is_du l v) : c4_N u l + 1 ≤ c4_N v l := by
  have hm : ∀ c : Int, (if l.toInt + c ≤ (u : Int) then 1 else 0 : Nat) ≤ (if l.toInt + c ≤ (v : Int) then 1 else 0 : Nat) := by
    intro c
    split <;> split <;> omega
  have m1 := hm 10
  have m2 := hm 15
  have m3 := hm 20
  have m4 := hm 40
  unfold c4_N
  rcases hd with hd | hd | hd | hd
  · have e1 : (if l.toInt + 10 ≤ (u : Int) then 1 else 0 : Nat) = 0 := if_neg (by omega)
    have e2 : (if l.toInt + 10 ≤ (v : Int) then 1 else 0 : Nat) = 1 := if_pos (by omega)
    omega
  · have e1 : (if l.toInt + 15 ≤ (u : Int) then 1 else 0 : Nat) = 0 := if_neg (by omega)
    have e2 : (if l.toInt + 15 ≤ (v : Int) then 1 else 0 : Nat) = 1 := if_pos (by omega)
    omega
  · have e1 : (if l.toInt + 20 ≤ (u : Int) then 1 else 0 : Nat) = 0 := if_neg (by omega)
    have e2 : (if l.toInt + 20 ≤ (v : Int) then 1 else 0 : Nat) = 1 := if_pos (by omega)
    omega
  · have e1 : (if l.toInt + 40 ≤ (u : Int) then 1 else 0 : Nat) = 0 := if_neg (by omega)
    have e2 : (if l.toInt + 40 ≤ (v : Int) then 1 else 0 : Nat) = 1 := if_pos (by omega)
    omega
def cp_N (F : Nat → Nat → Int32) (n u : Nat) : Nat := sm_N (fun i => c4_N u (F 2 i)) n
theorem cp_le (F : Nat → Nat → Int32) (n u : Nat) : cp_N F n u ≤ 4 * n := sm_N_le n (fun i _ => c4_le u (F 2 i))
theorem cp_lt {F : Nat → Nat → Int32} {n u v i : Nat} (h : u < v) (hi : i < n) (hd : is_du (F 2 i) v) : cp_N F n u + 1 ≤ cp_N F n v := sm_N_lt2 n hi (fun j _ => c4_mo (F 2 j) (Nat.le_of_lt h)) (c4_lt h hd)
theorem iv_s {off : Int32} {nm t : Nat} {g : Nat} {c : Int32} {F : Nat → Nat → Int32} {R : Nat → Int32} (hn20 : nm ≤ 20) (hM : ∀ i, i < nm → iv_m off t F i) (hZ : ∀ i, nm ≤ i → iv_z F i) (hG : ∀ j, j < g → iv_g nm R j) (hc : iv_c nm g F R) : ∀ n, t + n ≤ 10000 →
    (∀ i, i < nm → iv_m off (t + n) (dy_s nm t n (g, c, F, R)).2.2.1 i) ∧ (∀ i, nm ≤ i → iv_z (dy_s nm t n (g, c, F, R)).2.2.1 i) ∧ (∀ j, j < (dy_s nm t n (g, c, F, R)).1 → iv_g nm (dy_s nm t n (g, c, F, R)).2.2.2 j) ∧ iv_c nm (dy_s nm t n (g, c, F, R)).1 (dy_s nm t n (g, c, F, R)).2.2.1 (dy_s nm t n (g, c, F, R)).2.2.2 := by
  intro n
  induction n with
  | zero => intro _; exact ⟨hM, hZ, hG, hc⟩
  | succ n ih =>
    intro hn
    obtain ⟨a1, a2, a3, a4⟩ := ih (by omega)
    have h0 := dv_0 (u := t + n + 1) (by omega) (by intro i hi; exact a1 i hi) a2 a3 a4
    have h1 := dv_d (c := (dy_s nm t n (g, c, F, R)).2.1) hn20 (by omega) (by omega) h0 nm (Nat.le_refl _)
    exact ⟨dv_n h1, h1.2.1, h1.2.2.1, h1.2.2.2⟩
