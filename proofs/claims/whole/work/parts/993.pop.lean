/-! How many bits are set: the machine's way by halves is the sum of the bits. -/
section Pop
/-- a byte over and over -/
def repN (m : Nat) : Nat → Nat
  | 0 => 0
  | n + 1 => 256 * repN m n + m
/-- byte by byte -/
def mapd (f : Nat → Nat) : Nat → Nat → Nat
  | 0, _ => 0
  | n + 1, x => 256 * mapd f n (x / 256) + f (x % 256)
theorem and8 {h l M m : Nat} (hl : l < 256) (hm : m < 256) : (256 * h + l) &&& (256 * M + m) = 256 * (h &&& M) + (l &&& m) := by
  have a1 : ((256 * h + l) &&& (256 * M + m)) / 2 ^ 8 = ((256 * h + l) / 2 ^ 8) &&& ((256 * M + m) / 2 ^ 8) := Nat.and_div_two_pow ..
  have a2 : ((256 * h + l) &&& (256 * M + m)) % 2 ^ 8 = ((256 * h + l) % 2 ^ 8) &&& ((256 * M + m) % 2 ^ 8) := Nat.and_mod_two_pow ..
  rw [show (256 * h + l) / 2 ^ 8 = h by omega, show (256 * M + m) / 2 ^ 8 = M by omega] at a1
  rw [show (256 * h + l) % 2 ^ 8 = l by omega, show (256 * M + m) % 2 ^ 8 = m by omega] at a2
  omega
theorem m85 : ∀ b, b < 2 → ∀ k, k < 128 → (128 * b + k) &&& 85 = k &&& 85 := by decide +kernel
theorem m51 : ∀ b, b < 4 → ∀ k, k < 64 → (64 * b + k) &&& 51 = k &&& 51 := by decide +kernel
def p1 (b : Nat) : Nat := b - ((b / 2) &&& 85)
def p2 (b : Nat) : Nat := (b &&& 51) + ((b / 4) &&& 51)
def p3 (b : Nat) : Nat := (b + b / 16) % 16
theorem s85 (h l M : Nat) (hl : l < 256) : ((256 * h + l) / 2) &&& (256 * M + 85) = 256 * ((h / 2) &&& M) + ((l / 2) &&& 85) := by
  rw [show (256 * h + l) / 2 = 256 * (h / 2) + (128 * (h % 2) + l / 2) by omega, and8 (by omega) (by decide), m85 (h % 2) (by omega) (l / 2) (by omega)]
theorem s51 (h l M : Nat) (hl : l < 256) : ((256 * h + l) / 4) &&& (256 * M + 51) = 256 * ((h / 4) &&& M) + ((l / 4) &&& 51) := by
  rw [show (256 * h + l) / 4 = 256 * (h / 4) + (64 * (h % 4) + l / 4) by omega, and8 (by omega) (by decide), m51 (h % 4) (by omega) (l / 4) (by omega)]
theorem w1 : ∀ n x, x < 256 ^ n → x - ((x / 2) &&& repN 85 n) = mapd p1 n x
  | 0, x, h => by
    have : x = 0 := by simpa using h
    subst this
    rfl
  | n + 1, x, h => by
    have hx : x = 256 * (x / 256) + x % 256 := by omega
    have ih := w1 n (x / 256) (by rw [Nat.pow_succ] at h; omega)
    have e := s85 (x / 256) (x % 256) (repN 85 n) (by omega)
    rw [← hx] at e
    have l1 : (x / 256 / 2) &&& repN 85 n ≤ x / 256 / 2 := Nat.and_le_left
    have l2 : (x % 256 / 2) &&& 85 ≤ x % 256 / 2 := Nat.and_le_left
    show x - ((x / 2) &&& (256 * repN 85 n + 85)) = 256 * mapd p1 n (x / 256) + p1 (x % 256)
    rw [e, ← ih]
    unfold p1
    omega
theorem w2 (f : Nat → Nat) (hf : ∀ b, b < 256 → f b < 256) : ∀ n x, ((mapd f n x) &&& repN 51 n) + ((mapd f n x / 4) &&& repN 51 n) = mapd (fun b => p2 (f b)) n x
  | 0, x => by simp [mapd, repN]
  | n + 1, x => by
    have ih := w2 f hf n (x / 256)
    have hb := hf (x % 256) (by omega)
    show ((256 * mapd f n (x / 256) + f (x % 256)) &&& (256 * repN 51 n + 51)) + ((256 * mapd f n (x / 256) + f (x % 256)) / 4 &&& (256 * repN 51 n + 51)) = 256 * mapd (fun b => p2 (f b)) n (x / 256) + p2 (f (x % 256))
    rw [s51 _ _ _ hb, and8 hb (by decide), ← ih]
    unfold p2
    omega
theorem a15 (k : Nat) : k &&& 15 = k % 16 := Nat.and_two_pow_sub_one_eq_mod k 4
theorem w3 (f : Nat → Nat) (hf : ∀ b, b < 256 → f b ≤ 68 ∧ f b % 16 ≤ 4) : ∀ n x, ((mapd f n x + mapd f n x / 16) &&& repN 15 n) = mapd (fun b => p3 (f b)) n x
  | 0, x => by simp [mapd, repN]
  | n + 1, x => by
    have ih := w3 f hf n (x / 256)
    obtain ⟨hb, -⟩ := hf (x % 256) (by omega)
    have h4 : mapd f n (x / 256) % 16 ≤ 4 := by
      cases n with
      | zero => show 0 % 16 ≤ 4; decide
      | succ n =>
        have := (hf (x / 256 % 256) (by omega)).2
        show (256 * mapd f n (x / 256 / 256) + f (x / 256 % 256)) % 16 ≤ 4
        omega
    show ((256 * mapd f n (x / 256) + f (x % 256)) + (256 * mapd f n (x / 256) + f (x % 256)) / 16) &&& (256 * repN 15 n + 15) = 256 * mapd (fun b => p3 (f b)) n (x / 256) + p3 (f (x % 256))
    rw [show (256 * mapd f n (x / 256) + f (x % 256)) + (256 * mapd f n (x / 256) + f (x % 256)) / 16 = 256 * (mapd f n (x / 256) + mapd f n (x / 256) / 16) + (16 * (mapd f n (x / 256) % 16) + f (x % 256) + f (x % 256) / 16) by omega, and8 (by omega) (by decide), ih, a15]
    unfold p3
    omega
/-- the sum of so many bits from one on -/
def bsum (x : Nat) : Nat → Nat → Nat
  | _, 0 => 0
  | k, m + 1 => x / 2 ^ k % 2 + bsum x (k + 1) m
theorem bsum_add (x : Nat) : ∀ a k b, bsum x k (a + b) = bsum x k a + bsum x (k + a) b
  | 0, k, b => by rw [Nat.zero_add]; show bsum x k b = 0 + bsum x k b; omega
  | a + 1, k, b => by
    rw [show a + 1 + b = (a + b) + 1 by omega]
    show x / 2 ^ k % 2 + bsum x (k + 1) (a + b) = (x / 2 ^ k % 2 + bsum x (k + 1) a) + bsum x (k + (a + 1)) b
    rw [bsum_add x a (k + 1) b, show k + 1 + a = k + (a + 1) by omega]
    omega
theorem bsum_shift (x : Nat) : ∀ m k, bsum x (8 + k) m = bsum (x / 256) k m
  | 0, k => rfl
  | m + 1, k => by
    show x / 2 ^ (8 + k) % 2 + bsum x (8 + k + 1) m = x / 256 / 2 ^ k % 2 + bsum (x / 256) (k + 1) m
    rw [show 8 + k + 1 = 8 + (k + 1) by omega, bsum_shift x m (k + 1), Nat.pow_add, ← Nat.div_div_eq_div_mul]
theorem bsum_byte (x : Nat) : bsum x 0 8 = bsum (x % 256) 0 8 := by
  have h : ∀ k, k < 8 → x / 2 ^ k % 2 = x % 256 / 2 ^ k % 2 := fun k hk => by
    rcases (show k = 0 ∨ k = 1 ∨ k = 2 ∨ k = 3 ∨ k = 4 ∨ k = 5 ∨ k = 6 ∨ k = 7 by omega) with rfl | rfl | rfl | rfl | rfl | rfl | rfl | rfl <;> omega
  simp only [bsum, Nat.reduceAdd, h 0 (by decide), h 1 (by decide), h 2 (by decide), h 3 (by decide), h 4 (by decide), h 5 (by decide), h 6 (by decide), h 7 (by decide)]
def sumd (f : Nat → Nat) : Nat → Nat → Nat
  | 0, _ => 0
  | n + 1, x => sumd f n (x / 256) + f (x % 256)
theorem bsum_sumd : ∀ n x, bsum x 0 (8 * n) = sumd (fun b => bsum b 0 8) n x
  | 0, x => rfl
  | n + 1, x => by
    rw [show 8 * (n + 1) = 8 + 8 * n by omega, bsum_add, show 0 + 8 = 8 + 0 by rfl, bsum_shift, bsum_sumd n (x / 256), bsum_byte]
    show bsum (x % 256) 0 8 + sumd (fun b => bsum b 0 8) n (x / 256) = sumd (fun b => bsum b 0 8) n (x / 256) + bsum (x % 256) 0 8
    omega
theorem p321 : ∀ b, b < 256 → p3 (p2 (p1 b)) = bsum b 0 8 := by decide +kernel
theorem p21 : ∀ b, b < 256 → p2 (p1 b) ≤ 68 ∧ p2 (p1 b) % 16 ≤ 4 := by decide +kernel
theorem p1_lt : ∀ b, b < 256 → p1 b < 256 := by decide +kernel
theorem b8_le : ∀ b, b < 256 → bsum b 0 8 ≤ 8 := by decide +kernel
theorem mapd_congr {f g : Nat → Nat} (h : ∀ b, b < 256 → f b = g b) : ∀ n x, mapd f n x = mapd g n x
  | 0, _ => rfl
  | n + 1, x => by
    show 256 * mapd f n (x / 256) + f (x % 256) = 256 * mapd g n (x / 256) + g (x % 256)
    rw [mapd_congr h n, h _ (by omega)]
/-- by halves on eight bytes: each byte its bits -/
theorem halves (n x : Nat) (h : x < 256 ^ n) {y z : Nat} (hy : y = x - ((x / 2) &&& repN 85 n)) (hz : z = (y &&& repN 51 n) + ((y / 4) &&& repN 51 n)) : ((z + z / 16) &&& repN 15 n) = mapd (fun b => bsum b 0 8) n x := by
  rw [w1 n x h] at hy
  subst hy
  rw [w2 p1 p1_lt] at hz
  subst hz
  rw [w3 _ p21]
  exact mapd_congr p321 n x
end Pop
