/-! What the splitting's loops compute, on both sides. -/
/-- the value of a polynomial, from its highest coefficient on: after k of t steps -/
def vaF (C : Nat → Int32) (e : Int32) (t : Nat) : Nat → Int32
  | 0 => 0
  | k + 1 => fProd (vaF C e t k) e ^^^ C (t - 1 - k)
/-- coins into the coefficients 1, 2 .. -/
def ciF (C ring : Nat → Int32) (f b : Nat) : Nat → Nat → Int32
  | 0 => C
  | p + 1 => upd (ciF C ring f b p) (p + 1) (tkR ring f (b + p) ((f + (b + p)) % 64))
/-- one byte more of each share -/
def shF (sh C : Nat → Int32) (t : Nat) : Nat → Nat → Int32
  | 0 => sh
  | i + 1 => upd (shF sh C t i) (i + 1) ((shF sh C t i (i + 1) <<< ((8 : Int32) &&& 31)) ||| vaF C (nI (i + 1)) t t)
/-- byte after byte: shares, coefficients -/
def mkF (C ring : Nat → Int32) (f t n : Nat) (w : Int32) : Nat → (Nat → Int32) × (Nat → Int32)
  | 0 => (fun _ => 0, C)
  | o + 1 => (shF (mkF C ring f t n w o).1 (ciF (upd (mkF C ring f t n w o).2 0 (xushr w (8 * nI (3 - o)) &&& 255)) ring f (o * (t - 1)) (t - 1)) t n,
      ciF (upd (mkF C ring f t n w o).2 0 (xushr w (8 * nI (3 - o)) &&& 255)) ring f (o * (t - 1)) (t - 1))
theorem ciF_0 (C ring : Nat → Int32) (f b : Nat) : ∀ p, ciF C ring f b p 0 = C 0
  | 0 => rfl
  | p + 1 => by
    show upd (ciF C ring f b p) (p + 1) _ 0 = _
    rw [pk_un (by omega), ciF_0 C ring f b p]
theorem ciF_at (C ring : Nat → Int32) (f b : Nat) : ∀ p j, j < p → ciF C ring f b p (j + 1) = tkR ring f (b + j) ((f + (b + j)) % 64)
  | 0, j, h => absurd h (Nat.not_lt_zero j)
  | p + 1, j, h => by
    show upd (ciF C ring f b p) (p + 1) _ (j + 1) = _
    by_cases e : j = p
    · subst e; rw [pk_us]
    · rw [pk_un (by omega), ciF_at C ring f b p j (by omega)]
theorem shF_at (sh C : Nat → Int32) (t : Nat) : ∀ n i, shF sh C t n i = if 1 ≤ i ∧ i ≤ n then (sh i <<< ((8 : Int32) &&& 31)) ||| vaF C (nI i) t t else sh i
  | 0, i => by rw [if_neg (by omega)]; rfl
  | n + 1, i => by
    show upd (shF sh C t n) (n + 1) _ i = _
    by_cases e : i = n + 1
    · subst e
      rw [pk_us, shF_at sh C t n (n + 1), if_neg (by omega), if_pos (by omega)]
    · rw [pk_un e, shF_at sh C t n i]
      by_cases h : 1 ≤ i ∧ i ≤ n
      · rw [if_pos h, if_pos (by omega)]
      · rw [if_neg h, if_neg (by omega)]
/-- the value over bytes is the field's -/
theorem vaF_hr {C : Nat → Int32} {B : Nat → Nat} {e t : Nat} (hB : ∀ i, i < t → B i < 256 ∧ C i = nI (B i)) (he : e < 256) : ∀ k, k ≤ t → vaF C (nI e) t k = nI (hr B e t k)
  | 0, _ => rfl
  | k + 1, hk => by
    have ih := vaF_hr hB he k (by omega)
    have h1 := (hr_ok (fun i hi => (hB i hi).1) he k (by omega)).1
    show fProd (vaF C (nI e) t k) (nI e) ^^^ C (t - 1 - k) = nI (gm (hr B e t k) e ^^^ B (t - 1 - k))
    rw [ih, fProd_gm h1 he, (hB (t - 1 - k) (by omega)).2, nx_xor]
