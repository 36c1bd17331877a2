/-! What more loops of the class compute. -/
def tiF (ring : Nat → Int32) (f : Nat) : Nat → Int32
  | 0 => 0
  | k + 1 => (tiF ring f k <<< ((8 : Int32) &&& 31)) ||| tkR ring f k ((f + k) % 64)
/-- the seal before entry c -/
def jBef (ss : Nat → Int32) : Nat → Int32
  | 0 => 7
  | c + 1 => ss c
theorem fIsB_and (x : Int32) : ¬ fIsB (x &&& 255) = 0 := by
  obtain ⟨j, hj, e⟩ := pk_andE x (m := 255) 8 (by decide)
  rw [e]
  unfold fIsB
  have h1 : ¬ nI j < 0 := nI_pos (by omega)
  have h2 : ¬ (255 : Int32) < nI j := nI_nlt (a := 255) (b := j) (by omega) (by decide)
  rw [if_neg h1, if_neg h2]
  decide
/-- bytes behind the last one -/
def pbF (bs : Nat → Int32) (z m : Nat) (x : Int32) : Nat → Nat → Int32
  | 0 => bs
  | k + 1 => upd (pbF bs z m x k) (z + k) (xushr x (8 * nI (m - 1 - k)) &&& 255)
/-- a number out of bytes -/
def nbF (bs : Nat → Int32) (a : Nat) : Nat → Int32
  | 0 => 0
  | k + 1 => (nbF bs a k <<< ((8 : Int32) &&& 31)) ||| bs (a + k)
/-- a row filled -/
def flF (f : Nat → Int32) (v : Int32) : Nat → Nat → Int32
  | 0 => f
  | k + 1 => upd (flF f v k) k v
theorem flF_at (f : Nat → Int32) (v : Int32) : ∀ k j, flF f v k j = if j < k then v else f j
  | 0, j => by rw [if_neg (by omega)]; rfl
  | k + 1, j => by
    show upd (flF f v k) k v j = _
    by_cases h : j = k
    · subst h; rw [pk_us, if_pos (by omega)]
    · rw [pk_un h, flF_at f v k j]
      by_cases h2 : j < k
      · rw [if_pos h2, if_pos (by omega)]
      · rw [if_neg h2, if_neg (by omega)]
