/-! The class's weights over a set of numbers from 1 to 8 (a mask), and the sum over them, against nwt. -/
def cnt (G : Nat) : Nat → Nat
  | 0 => 0
  | i + 1 => if G.testBit (i + 1) = true then cnt G i + 1 else cnt G i
def Xp (G j : Nat) : Nat := (PX G).getD j 0
def wzN (G i : Nat) : Nat → Nat
  | 0 => 1
  | j + 1 => if j + 1 = i then wzN G i j else if G.testBit (j + 1) = true then gm (wzN G i j) (gm (j + 1) (iv ((j + 1) ^^^ i))) else wzN G i j
def psum (G : Nat) (f : Nat → Nat) : Nat → Nat
  | 0 => 0
  | i + 1 => if G.testBit (i + 1) = true then psum G f i ^^^ f (i + 1) else psum G f i
theorem Xp_1 : ∀ m, m < 256 → ∀ i, i < 8 → Nat.testBit (2 * m) (i + 1) = true → Xp (2 * m) (cnt (2 * m) i) = i + 1 := by decide +kernel
theorem Xp_in : ∀ m, m < 256 → ∀ j, j < cnt (2 * m) 8 → 1 ≤ Xp (2 * m) j ∧ Xp (2 * m) j ≤ 8 := by decide +kernel
theorem Xp_inj : ∀ m, m < 256 → ∀ j, j < cnt (2 * m) 8 → ∀ k, k < j → Xp (2 * m) k ≠ Xp (2 * m) j := by decide +kernel
theorem wzN_ok : ∀ m, m < 256 → ∀ j, j < cnt (2 * m) 8 → wzN (2 * m) (Xp (2 * m) j) 8 = wgt (Xp (2 * m)) j (cnt (2 * m) 8) := by decide +kernel
theorem W_sum : ∀ m, m < 256 → ∀ n, n < cnt (2 * m) 8 → xsum (fun i => wgt (Xp (2 * m)) i (n + 1)) (n + 1) = 1 := by decide +kernel
theorem psum_x {m : Nat} (hm : m < 256) (f : Nat → Nat) : ∀ J, J ≤ 8 → psum (2 * m) f J = xsum (fun j => f (Xp (2 * m) j)) (cnt (2 * m) J)
  | 0, _ => rfl
  | J + 1, h => by
    have ih := psum_x hm f J (by omega)
    show (if Nat.testBit (2 * m) (J + 1) = true then psum (2 * m) f J ^^^ f (J + 1) else psum (2 * m) f J) = xsum (fun j => f (Xp (2 * m) j)) (if Nat.testBit (2 * m) (J + 1) = true then cnt (2 * m) J + 1 else cnt (2 * m) J)
    by_cases hb : Nat.testBit (2 * m) (J + 1) = true
    · rw [if_pos hb, if_pos hb, ih]
      show _ = xsum _ (cnt (2 * m) J) ^^^ f (Xp (2 * m) (cnt (2 * m) J))
      rw [Xp_1 m hm J (by omega) hb]
    · rw [if_neg hb, if_neg hb, ih]
theorem open_ok {m : Nat} (hm : m < 256) (hn : 0 < cnt (2 * m) 8) {B : Nat → Nat} (hB : ∀ i, B i < 256) : nwt (Xp (2 * m)) (cnt (2 * m) 8 - 1) (fun j => B (Xp (2 * m) j)) = psum (2 * m) (fun i => gm (B i) (wzN (2 * m) i 8)) 8 := by
  rw [psum_x hm _ 8 (Nat.le_refl 8), nwt_lgr (X := Xp (2 * m)) (cnt (2 * m) 8 - 1) _ (fun j hj => by have := Xp_in m hm j (by omega); omega) (fun j _ => hB _) (fun n hn2 => W_sum m hm n (by omega)), show cnt (2 * m) 8 - 1 + 1 = cnt (2 * m) 8 by omega]
  unfold lgr
  apply xsum_congr
  intro j hj
  rw [wzN_ok m hm j hj]
