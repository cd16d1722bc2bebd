-- NUMBERS: Int32 by its integer
theorem i_lt {a b : Int32} : a < b ↔ a.toInt < b.toInt := Int32.lt_iff_toInt_lt
theorem i_le {a b : Int32} : a ≤ b ↔ a.toInt ≤ b.toInt := Int32.le_iff_toInt_le
theorem i_eq {a b : Int32} : a = b ↔ a.toInt = b.toInt := Int32.toInt_inj.symm
theorem i_lo (a : Int32) : -2147483648 ≤ a.toInt := Int32.le_toInt a
theorem i_hi (a : Int32) : a.toInt < 2147483648 := Int32.toInt_lt a
theorem i_add {a b : Int32} (h1 : -2147483648 ≤ a.toInt + b.toInt) (h2 : a.toInt + b.toInt < 2147483648) : (a + b).toInt = a.toInt + b.toInt := by
  rw [Int32.toInt_add]
  exact Int.bmod_eq_of_le (by omega) (by omega)
theorem i_sub {a b : Int32} (h1 : -2147483648 ≤ a.toInt - b.toInt) (h2 : a.toInt - b.toInt < 2147483648) : (a - b).toInt = a.toInt - b.toInt := by
  rw [Int32.toInt_sub]
  exact Int.bmod_eq_of_le (by omega) (by omega)
theorem i_mul {a b : Int32} (h1 : -2147483648 ≤ a.toInt * b.toInt) (h2 : a.toInt * b.toInt < 2147483648) : (a * b).toInt = a.toInt * b.toInt := by
  rw [Int32.toInt_mul]
  exact Int.bmod_eq_of_le (by omega) (by omega)
theorem i_nI {n : Nat} (h : n < 2147483648) : (nI n).toInt = n := nI_toInt h
theorem i_cl {a : Int32} (h : 0 ≤ a.toInt) : (a.toNatClampNeg : Int) = a.toInt := by
  rw [Int32.toNatClampNeg]
  exact Int.toNat_of_nonneg h
theorem ix_of {n : Nat} {m : Int32} (hn : n < 2147483648) (h : is_ix n m) : ∃ i : Nat, i < n ∧ m = nI i := by
  obtain ⟨h1, h2⟩ := h
  rw [i_lt] at h1 h2
  rw [i_nI hn] at h2
  have h3 : (0 : Int32).toInt = 0 := rfl
  rw [h3] at h1
  refine ⟨m.toNatClampNeg, by have := i_cl (a := m) (by omega); omega, ?_⟩
  rw [i_eq, i_nI (by have := i_cl (a := m) (by omega); omega)]
  exact (i_cl (by omega)).symm
theorem ix_nI {n i : Nat} (hn : n < 2147483648) (h : i < n) : is_ix n (nI i) := by
  refine ⟨?_, ?_⟩
  · rw [i_lt, i_nI (by omega)]; show ¬ (i : Int) < 0; omega
  · rw [i_lt, i_nI (by omega), i_nI hn]; omega
-- SUMS
def sm_N (f : Nat → Nat) : Nat → Nat
  | 0 => 0
  | n + 1 => sm_N f n + f n
theorem sm_N_congr {f g : Nat → Nat} : ∀ n, (∀ i, i < n → f i = g i) → sm_N f n = sm_N g n
  | 0, _ => rfl
  | n + 1, h => by
    show sm_N f n + f n = sm_N g n + g n
    rw [sm_N_congr n (fun i hi => h i (by omega)), h n (by omega)]
theorem sm_N_one {f g : Nat → Nat} {i : Nat} : ∀ n, i < n → (∀ j, j ≠ i → f j = g j) → sm_N f n + g i = sm_N g n + f i
  | 0, h, _ => by omega
  | n + 1, h, hj => by
    show sm_N f n + f n + g i = sm_N g n + g n + f i
    by_cases hi : i = n
    · subst hi
      rw [sm_N_congr i (fun j hj' => hj j (by omega))]
      omega
    · have := sm_N_one n (by omega) hj
      have := hj n (fun q => hi q.symm)
      omega
theorem sm_N_le {f : Nat → Nat} {B : Nat} : ∀ n, (∀ i, i < n → f i ≤ B) → sm_N f n ≤ B * n
  | 0, _ => Nat.zero_le _
  | n + 1, h => by
    have h1 := sm_N_le n (fun i hi => h i (by omega))
    have h2 := h n (by omega)
    show sm_N f n + f n ≤ B * (n + 1)
    rw [Nat.mul_succ]
    omega
theorem sm_N_lt {f : Nat → Nat} {B i d : Nat} : ∀ n, i < n → (∀ j, j < n → f j ≤ B) → f i + d ≤ B → sm_N f n + d ≤ B * n
  | 0, h, _, _ => by omega
  | n + 1, h, hB, hd => by
    show sm_N f n + f n + d ≤ B * (n + 1)
    rw [Nat.mul_succ]
    by_cases hi : i = n
    · subst hi
      have h1 := sm_N_le (f := f) (B := B) i (fun j hj => hB j (by omega))
      omega
    · have h1 := sm_N_lt n (by omega) (fun j hj => hB j (by omega)) hd
      have h2 := hB n (by omega)
      omega
theorem sm_N_mono {f g : Nat → Nat} : ∀ n, (∀ i, i < n → f i ≤ g i) → sm_N f n ≤ sm_N g n
  | 0, _ => Nat.le_refl _
  | n + 1, h => by
    have h1 := sm_N_mono n (fun i hi => h i (by omega))
    have h2 := h n (by omega)
    show sm_N f n + f n ≤ sm_N g n + g n
    omega
-- THE INVARIANT
/-- how many enquiries may have been sent up to day t -/
def du_N (t : Nat) (l : Int32) : Nat := (if l.toInt + 10 ≤ t then 1 else 0) + (if l.toInt + 15 ≤ t then 1 else 0) + (if l.toInt + 20 ≤ t then 1 else 0)
theorem du_le (t : Nat) (l : Int32) : du_N t l ≤ 3 := by unfold du_N; split <;> split <;> split <;> omega
theorem du_mono {t t' : Nat} (l : Int32) (h : t ≤ t') : du_N t l ≤ du_N t' l := by unfold du_N; split <;> split <;> split <;> split <;> split <;> split <;> omega
def iv_m (off : Int32) (t : Nat) (F : Nat → Nat → Int32) (i : Nat) : Prop :=
  (0 ≤ (F 0 i).toInt ∧ (F 0 i).toInt < off.toInt) ∧ (0 ≤ (F 1 i).toInt ∧ (F 1 i).toInt < off.toInt) ∧ (0 ≤ (F 2 i).toInt ∧ (F 2 i).toInt ≤ 10000) ∧
  (1 ≤ (F 4 i).toInt ∧ (F 4 i).toInt ≤ 1000) ∧ (0 ≤ (F 5 i).toInt ∧ (F 5 i).toInt ≤ 1000000) ∧ -1 ≤ (F 6 i).toInt ∧ -1 ≤ (F 7 i).toInt ∧ (0 ≤ (F 8 i).toInt ∧ (F 8 i).toInt ≤ 1) ∧
  -1 ≤ (F 9 i).toInt ∧ (1 ≤ (F 10 i).toInt ∧ (F 10 i).toInt ≤ 6) ∧ (0 ≤ (F 11 i).toInt ∧ (F 11 i).toInt ≤ (F 4 i).toInt) ∧ (¬ (F 10 i).toInt = 5 → (F 12 i).toInt = 0) ∧
  (0 ≤ (F 13 i).toInt ∧ (F 13 i).toInt ≤ du_N t (F 2 i)) ∧ -1 ≤ (F 14 i).toInt ∧ -1 ≤ (F 16 i).toInt ∧ (0 ≤ (F 17 i).toInt ∧ (F 17 i).toInt ≤ 1) ∧ (0 ≤ (F 18 i).toInt ∧ (F 18 i).toInt ≤ 1)
def iv_z (F : Nat → Nat → Int32) (i : Nat) : Prop := F 8 i = 0 ∧ F 11 i = 0 ∧ F 12 i = 0 ∧ F 13 i = 0 ∧ F 17 i = 0 ∧ F 18 i = 0
def iv_g (nm : Nat) (R : Nat → Int32) (j : Nat) : Prop := is_ix nm (R (7 * j + 1)) ∧ -1 ≤ (R (7 * j + 4)).toInt ∧ -1 ≤ (R (7 * j + 5)).toInt
/-- how many messages a movement has brought about, answers aside -/
def wt_N (F : Nat → Nat → Int32) (i : Nat) : Nat := 1 + (if F 6 i = -1 then 0 else 2) + (if F 9 i = -1 then 0 else 1) + (F 13 i).toNatClampNeg
/-- an enquiry; an enquiry that was received -/
def eq_N (R : Nat → Int32) (j : Nat) : Nat := if R (7 * j) = 4 then 1 else 0
def er_N (R : Nat → Int32) (j : Nat) : Nat := if R (7 * j) = 4 ∧ R (7 * j + 6) = 1 then 1 else 0
def en_N (F : Nat → Nat → Int32) (i : Nat) : Nat := (F 13 i).toNatClampNeg
def iv_c (nm ng : Nat) (F : Nat → Nat → Int32) (R : Nat → Int32) : Prop := ng ≤ sm_N (wt_N F) nm + sm_N (er_N R) ng ∧ sm_N (eq_N R) ng ≤ sm_N (en_N F) nm
def iv_S (t : Nat) (σ : st_T) : Prop := match σ with
  | (off, nm, ng, now, F, R) => (2 ≤ off.toInt ∧ off.toInt ≤ 8) ∧ nm ≤ 20 ∧ now = nI t ∧ t ≤ 10000 ∧ (∀ i, i < nm → iv_m off t F i) ∧ (∀ i, nm ≤ i → iv_z F i) ∧ (∀ j, j < ng → iv_g nm R j) ∧ iv_c nm ng F R
