/-! ABS 46: block: the class's sums -/
def csS (A : Ab) (G p z : Nat) : Nat → Int64
  | 0 => 0
  | k + 1 => csS A G p z k + nmR (gv A (6 * G + (p + k))) z
/-- the columns x .. x+n-1 over the rows p .. p+k-1 -/
def preS (A : Ab) (G p x k : Nat) : Nat → Int64
  | 0 => 0
  | n + 1 => preS A G p x k n + csS A G p (x + n) k
theorem pre_row {A : Ab} {G p x k : Nat} : ∀ n, preS A G p x (k + 1) n = preS A G p x k n + rowS (gv A (6 * G + (p + k))) x n := by
  intro n
  induction n with
  | zero => rfl
  | succ n ih =>
    show preS A G p x (k + 1) n + (csS A G p (x + n) k + nmR (gv A (6 * G + (p + k))) (x + n)) = preS A G p x k n + csS A G p (x + n) k + (rowS (gv A (6 * G + (p + k))) x n + nmR (gv A (6 * G + (p + k))) (x + n))
    rw [ih]
    generalize preS A G p x k n = a
    generalize rowS (gv A (6 * G + (p + k))) x n = b
    generalize csS A G p (x + n) k = d
    generalize nmR (gv A (6 * G + (p + k))) (x + n) = e
    rw [Int64.add_assoc, Int64.add_assoc, ← Int64.add_assoc b, Int64.add_comm b d, Int64.add_assoc d]
theorem pre_0 {A : Ab} {G p x : Nat} : ∀ n, preS A G p x 0 n = 0 := by
  intro n
  induction n with
  | zero => rfl
  | succ n ih =>
    show preS A G p x 0 n + 0 = 0
    rw [ih]
    rfl
theorem bl_pre {A : Ab} {G p x n : Nat} : ∀ k, blS A G p x n k = preS A G p x k n := by
  intro k
  induction k with
  | zero => exact (pre_0 n).symm
  | succ k ih =>
    show blS A G p x n k + rowS (gv A (6 * G + (p + k))) x n = _
    rw [ih, pre_row]
