/-! digits: the value of n parts of a function, from o on, to a base -/
def dvB (B : Int) (f : Int → Int) (o : Int) : Nat → Int
  | 0 => 0
  | n + 1 => dvB B f o n + f (o + n) * B ^ n
abbrev dv (f : Int → Int) (o : Int) (n : Nat) : Int := dvB 16777216 f o n
def digB (B : Int) (f : Int → Int) (o : Int) (n : Nat) : Prop := ∀ i : Nat, i < n → 0 ≤ f (o + i) ∧ f (o + i) < B
theorem dvB_zero (B : Int) (f : Int → Int) (o : Int) : dvB B f o 0 = 0 := rfl
theorem dvB_succ (B : Int) (f : Int → Int) (o : Int) (n : Nat) : dvB B f o (n + 1) = dvB B f o n + f (o + n) * B ^ n := rfl
theorem dvB_congr {B : Int} {f g : Int → Int} {o p : Int} : ∀ {n : Nat}, (∀ i : Nat, i < n → f (o + i) = g (p + i)) → dvB B f o n = dvB B g p n
  | 0, _ => rfl
  | n + 1, h => by rw [dvB_succ, dvB_succ, dvB_congr (fun i hi => h i (by omega)), h n (by omega)]
theorem dvB_low (B : Int) (f : Int → Int) (o : Int) : ∀ n : Nat, dvB B f o (n + 1) = f o + B * dvB B f (o + 1) n
  | 0 => by simp [dvB]
  | n + 1 => by
    rw [dvB_succ, dvB_low B f o n, dvB_succ]
    have : o + ((n + 1 : Nat) : Int) = o + 1 + (n : Int) := by omega
    rw [this]; grind
theorem dvB_split (B : Int) (f : Int → Int) (o : Int) (a : Nat) : ∀ b : Nat, dvB B f o (a + b) = dvB B f o a + B ^ a * dvB B f (o + a) b
  | 0 => by simp [dvB]
  | b + 1 => by
    rw [show a + (b + 1) = (a + b) + 1 from rfl, dvB_succ, dvB_split B f o a b, dvB_succ]
    have : o + ((a + b : Nat) : Int) = o + a + (b : Int) := by omega
    rw [this]; grind
theorem powB_pos {B : Int} (hB : 0 < B) (n : Nat) : 0 < B ^ n := Int.pow_pos hB
theorem dvB_nonneg {B : Int} (hB : 0 < B) {f : Int → Int} {o : Int} : ∀ {n : Nat}, (∀ i : Nat, i < n → 0 ≤ f (o + i)) → 0 ≤ dvB B f o n
  | 0, _ => by simp [dvB]
  | n + 1, h => by
    rw [dvB_succ]
    have h1 := dvB_nonneg hB (n := n) (fun i hi => h i (by omega))
    have h2 := Int.mul_nonneg (h n (by omega)) (Int.le_of_lt (powB_pos hB n))
    omega
theorem dvB_lt {B : Int} (hB : 0 < B) {f : Int → Int} {o : Int} : ∀ {n : Nat}, digB B f o n → dvB B f o n < B ^ n
  | 0, _ => by simp [dvB]
  | n + 1, h => by
    rw [dvB_succ]
    have h1 := dvB_lt hB (n := n) (fun i hi => h i (by omega))
    have h2 : f (o + n) * B ^ n ≤ (B - 1) * B ^ n := Int.mul_le_mul_of_nonneg_right (by have := (h n (by omega)).2; omega) (Int.le_of_lt (powB_pos hB n))
    have h3 : (B - 1) * B ^ n + B ^ n = B ^ (n + 1) := by grind
    omega
theorem dvB_ge {B : Int} (hB : 0 < B) {f : Int → Int} {o : Int} {n : Nat} (h : digB B f o (n + 1)) (ht : f (o + n) ≠ 0) : B ^ n ≤ dvB B f o (n + 1) := by
  rw [dvB_succ]
  have h1 := dvB_nonneg hB (f := f) (o := o) (n := n) (fun i hi => (h i (by omega)).1)
  have h2 : 1 * B ^ n ≤ f (o + n) * B ^ n := Int.mul_le_mul_of_nonneg_right (by have := (h n (by omega)).1; omega) (Int.le_of_lt (powB_pos hB n))
  omega
theorem dvB_up_out {B : Int} {f : Int → Int} {o x v : Int} {n : Nat} (h : x < o ∨ o + n ≤ x) : dvB B (up1 f x v) o n = dvB B f o n :=
  dvB_congr (fun i hi => up1_ne f (by omega) v)
theorem digB_mono {B : Int} {f : Int → Int} {o : Int} {n m : Nat} (h : digB B f o n) (hm : m ≤ n) : digB B f o m := fun i hi => h i (by omega)
theorem digB_up {B : Int} {f : Int → Int} {o x v : Int} {n : Nat} (h : ∀ i : Nat, i < n → o + i ≠ x → 0 ≤ f (o + i) ∧ f (o + i) < B) (v0 : 0 ≤ v) (v1 : v < B) : digB B (up1 f x v) o n := by
  intro i hi
  by_cases e : o + i = x
  · rw [e, up1_same]; exact ⟨v0, v1⟩
  · rw [up1_ne f e]; exact h i hi e
theorem digB_up_out {B : Int} {f : Int → Int} {o x v : Int} {n : Nat} (h : digB B f o n) (hx : x < o ∨ o + n ≤ x) : digB B (up1 f x v) o n := by
  intro i hi
  rw [up1_ne f (by omega)]; exact h i hi
theorem digB_congr {B : Int} {f g : Int → Int} {o p : Int} {n : Nat} (h : digB B f o n) (hg : ∀ i : Nat, i < n → g (p + i) = f (o + i)) : digB B g p n := by
  intro i hi; rw [hg i hi]; exact h i hi
theorem pow_mono {B : Int} (hB : 1 < B) {n m : Nat} (h : n ≤ m) : B ^ n ≤ B ^ m := by
  obtain ⟨k, rfl⟩ := Nat.exists_eq_add_of_le h
  induction k with
  | zero => exact Int.le_refl _
  | succ k ih =>
    have h1 := ih (by omega)
    have h2 : 1 * B ^ (n + k) ≤ B * B ^ (n + k) := Int.mul_le_mul_of_nonneg_right (by omega) (Int.le_of_lt (powB_pos (by omega) _))
    have h3 : B * B ^ (n + k) = B ^ (n + (k + 1)) := by rw [← Nat.add_assoc]; grind
    omega
theorem pow_inj_lt {B : Int} (hB : 1 < B) {n m : Nat} (h : B ^ n < B ^ m) : n < m := by
  rcases Nat.lt_or_ge n m with h' | h'
  · exact h'
  · have := pow_mono hB h'; omega
/-- two numbers of the same places are the same when their digits are; the first difference from above decides -/
theorem dvB_cmp {B : Int} (hB : 0 < B) {f g : Int → Int} {o p : Int} {n i : Nat} (hf : digB B f o n) (hg : digB B g p n) (hi : i < n) (heq : ∀ j : Nat, i < j → j < n → f (o + j) = g (p + j)) (hlt : f (o + i) < g (p + i)) : dvB B f o n < dvB B g p n := by
  obtain ⟨m, rfl⟩ := Nat.exists_eq_add_of_lt hi
  rw [show i + m + 1 = (i + 1) + m by omega, dvB_split B f o (i + 1) m, dvB_split B g p (i + 1) m, dvB_succ, dvB_succ]
  have e : dvB B f (o + ((i + 1 : Nat) : Int)) m = dvB B g (p + ((i + 1 : Nat) : Int)) m := dvB_congr (fun j hj => by
    have := heq (i + 1 + j) (by omega) (by omega)
    rw [show o + ((i + 1 : Nat) : Int) + (j : Int) = o + ((i + 1 + j : Nat) : Int) by omega, show p + ((i + 1 : Nat) : Int) + (j : Int) = p + ((i + 1 + j : Nat) : Int) by omega]; exact this)
  rw [e]
  have h1 := dvB_lt hB (digB_mono hf (show i ≤ i + m + 1 by omega))
  have h2 := dvB_nonneg hB (f := g) (o := p) (n := i) (fun j hj => (hg j (by omega)).1)
  have h3 : (f (o + i) + 1) * B ^ i ≤ g (p + i) * B ^ i := Int.mul_le_mul_of_nonneg_right (by omega) (Int.le_of_lt (powB_pos hB i))
  have h4 : (f (o + i) + 1) * B ^ i = f (o + i) * B ^ i + B ^ i := by grind
  omega
