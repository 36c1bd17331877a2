/-! What more loops of the class compute. -/
def tiF (ring : Nat → Int32) (f : Nat) : Nat → Int32
  | 0 => 0
  | k + 1 => (tiF ring f k <<< ((8 : Int32) &&& 31)) ||| tkR ring f k ((f + k) % 64)
/-- the seal before entry c -/
def jBef (ss : Nat → Int32) : Nat → Int32
  | 0 => 7
  | c + 1 => ss c
theorem fIsB_and (x : Int32) : ¬ fIsB (x &&& 255) = 0 := by
  obtain ⟨j, hj, e⟩ := pk_andE x (m := 255) 8 (by decide)
  rw [e]
  unfold fIsB
  have h1 : ¬ nI j < 0 := nI_pos (by omega)
  have h2 : ¬ (255 : Int32) < nI j := nI_nlt (a := 255) (b := j) (by omega) (by decide)
  rw [if_neg h1, if_neg h2]
  decide
/-- bytes behind the last one -/
def pbF (bs : Nat → Int32) (z m : Nat) (x : Int32) : Nat → Nat → Int32
  | 0 => bs
  | k + 1 => upd (pbF bs z m x k) (z + k) (xushr x (8 * nI (m - 1 - k)) &&& 255)
/-- a number out of bytes -/
def nbF (bs : Nat → Int32) (a : Nat) : Nat → Int32
  | 0 => 0
  | k + 1 => (nbF bs a k <<< ((8 : Int32) &&& 31)) ||| bs (a + k)
/-- a row filled -/
def flF (f : Nat → Int32) (v : Int32) : Nat → Nat → Int32
  | 0 => f
  | k + 1 => upd (flF f v k) k v
theorem flF_at (f : Nat → Int32) (v : Int32) : ∀ k j, flF f v k j = if j < k then v else f j
  | 0, j => by rw [if_neg (by omega)]; rfl
  | k + 1, j => by
    show upd (flF f v k) k v j = _
    by_cases h : j = k
    · subst h; rw [pk_us, if_pos (by omega)]
    · rw [pk_un h, flF_at f v k j]
      by_cases h2 : j < k
      · rw [if_pos h2, if_pos (by omega)]
      · rw [if_neg h2, if_neg (by omega)]
/-- byte after byte: shares, coefficients (t1 coins a byte) -/
def mkG (sh C ring : Nat → Int32) (f t1 n : Nat) (w : Int32) : Nat → (Nat → Int32) × (Nat → Int32)
  | 0 => (sh, C)
  | o + 1 => (shF (mkG sh C ring f t1 n w o).1 (ciF (upd (mkG sh C ring f t1 n w o).2 0 (xushr w (8 * nI (3 - o)) &&& 255)) ring f (o * t1) t1) (t1 + 1) n,
      ciF (upd (mkG sh C ring f t1 n w o).2 0 (xushr w (8 * nI (3 - o)) &&& 255)) ring f (o * t1) t1)
theorem or_bit (G : Nat) {j : Nat} (hj : j < 32) : nI G ||| ((1 : Int32) <<< (nI j &&& 31)) = nI (G ||| 2 ^ j) := by
  apply b_ext
  intro i hi
  rw [b_or, b_shl j hj _ hi, bt_nI, bt_nI, Nat.testBit_or, Nat.testBit_two_pow]
  have h1 : ∀ k, k < 32 → bt 1 k = decide (k = 0) := by decide +kernel
  rw [h1 (i - j) (by omega)]
  by_cases h : j ≤ i
  · by_cases e : i = j
    · subst e; simp [hi]
    · have : i - j ≠ 0 := by omega
      have e2 : ¬ j = i := fun z => e z.symm
      simp [hi, h, this, e2]
  · have e2 : ¬ j = i := by omega
    simp [hi, h, e2]
/-- digests of the shares -/
def teF (dg sh : Nat → Int32) : Nat → Nat → Int32
  | 0 => dg
  | k + 1 => upd (teF dg sh k) (k + 1) (fDig (nI (k + 1)) (sh (k + 1)))
theorem teF_at (dg sh : Nat → Int32) : ∀ n i, teF dg sh n i = if 1 ≤ i ∧ i ≤ n then fDig (nI i) (sh i) else dg i
  | 0, i => by rw [if_neg (by omega)]; rfl
  | n + 1, i => by
    show upd (teF dg sh n) (n + 1) _ i = _
    by_cases e : i = n + 1
    · subst e; rw [pk_us, if_pos (by omega)]
    · rw [pk_un e, teF_at dg sh n i]
      by_cases h : 1 ≤ i ∧ i ≤ n
      · rw [if_pos h, if_pos (by omega)]
      · rw [if_neg h, if_neg (by omega)]
