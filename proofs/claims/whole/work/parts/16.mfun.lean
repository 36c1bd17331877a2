/-! What the reference's loops compute. -/
def prG (a b : Int32) : Nat → Int32 × Int32
  | 0 => (0, a)
  | k + 1 => (if (b >>> (nI k &&& 31)) &&& 1 = 1 then (prG a b k).1 ^^^ (prG a b k).2 else (prG a b k).1, if (prG a b k).2 * 2 ≤ 255 then (prG a b k).2 * 2 else ((prG a b k).2 * 2) ^^^ 283)
theorem and1 (x : Int32) : x &&& 1 = 0 ∨ x &&& 1 = 1 := by
  obtain ⟨j, hj, e⟩ := pk_andE x (m := 1) 1 (by decide)
  rcases (show j = 0 ∨ j = 1 by omega) with rfl | rfl
  · exact Or.inl e
  · exact Or.inr e
theorem shl1 (x : Int32) : x <<< ((1 : Int32) &&& 31) = x * 2 := by
  apply Int32.toBitVec_inj.mp
  apply BitVec.eq_of_toNat_eq
  rw [pk_shl x _ 1 (by decide), Int32.toBitVec_mul, BitVec.toNat_mul]
  rfl
theorem prG_F (a b : Int32) : ∀ k, prG a b k = prF a b k
  | 0 => rfl
  | k + 1 => by
    unfold prG prF
    rw [prG_F a b k, shl1]
    refine Prod.ext ?_ rfl
    dsimp only
    rcases and1 (b >>> (nI k &&& 31)) with h | h
    · rw [if_pos h, if_neg (by rw [h]; decide)]
    · rw [if_pos h, if_neg (by rw [h]; decide)]
def toN (x : Int32) : Nat := x.toBitVec.toNat
theorem toN_nI {n : Nat} (h : n < 2 ^ 32) : toN (nI n) = n := pk_tn h
/-- byte k of a word, the highest is 0 -/
def fByt (w k : Int32) : Int32 := (w >>> ((24 - 8 * k) &&& 31)) &&& 255
theorem fByt_ok (w : Int32) {k : Nat} (hk : k < 4) : fByt w (nI k) = nI (byt w (3 - k)) := by
  unfold fByt
  have e : (24 : Int32) - 8 * nI k = nI (8 * (3 - k)) := by
    rw [show (8 : Int32) * nI k = nI (8 * k) from pk_mul 8 k, show (24 : Int32) = nI 24 from rfl, pk_sub (by omega)]
    congr 1
    omega
  rw [e]
  exact byt_s w (by omega)
/-- given shares into points -/
def bdF (gb sb : Nat → Int32) (v : Nat) (k : Int32) (x y : Nat → Int32) : Nat → (Nat → Int32) × (Nat → Int32) × Nat
  | 0 => (x, y, 0)
  | i + 1 => if gb (9 * v + (i + 1)) = 0 then bdF gb sb v k x y i else (upd (bdF gb sb v k x y i).1 (bdF gb sb v k x y i).2.2 (nI (i + 1)), upd (bdF gb sb v k x y i).2.1 (bdF gb sb v k x y i).2.2 (fByt (sb (9 * v + (i + 1))) k), (bdF gb sb v k x y i).2.2 + 1)
/-- one turn of the points' table -/
def aiF (x y : Nat → Int32) (l : Nat) : Nat → Nat → Int32
  | 0 => y
  | j + 1 => upd (aiF x y l j) j (nI (gm (toN (aiF x y l j j ^^^ aiF x y l j l)) (iv (toN (x j ^^^ x l)))))
def aoF (x y : Nat → Int32) (n : Nat) : Nat → Nat → Int32
  | 0 => y
  | m + 1 => aiF x (aoF x y n m) (n - 1 - m) (n - 1 - m)
def avF (x z : Nat → Int32) : Nat → Int32
  | 0 => z 0
  | l + 1 => z (l + 1) ^^^ fProd (x (l + 1)) (avF x z l)
theorem aiF_ge (x y : Nat → Int32) (l : Nat) : ∀ j i, j ≤ i → aiF x y l j i = y i
  | 0, _, _ => rfl
  | j + 1, i, h => by
    show upd (aiF x y l j) j _ i = _
    rw [pk_un (by omega), aiF_ge x y l j i (by omega)]
theorem aiF_ok {x y : Nat → Int32} {X Y : Nat → Nat} {n l : Nat} (hl : l < n) (hx : ∀ j, j < n → X j < 256 ∧ x j = nI (X j)) (hy : ∀ j, j < n → Y j < 256 ∧ y j = nI (Y j)) : ∀ j, j ≤ l → ∀ i, i < n → aiF x y l j i = nI (if i < j then gm (Y i ^^^ Y l) (iv (X i ^^^ X l)) else Y i)
  | 0, _, i, hi => by rw [if_neg (by omega)]; exact (hy i hi).2
  | j + 1, hj, i, hi => by
    have ih := aiF_ok hl hx hy j (by omega)
    show upd (aiF x y l j) j _ i = _
    by_cases e : i = j
    · subst e
      rw [pk_us, if_pos (by omega), ih i hi, if_neg (by omega), ih l hl, if_neg (by omega), nx_xor, (hx i hi).2, (hx l hl).2, nx_xor, toN_nI (Nat.lt_trans (xor_lt (hy i hi).1 (hy l hl).1) (by decide)), toN_nI (Nat.lt_trans (xor_lt (hx i hi).1 (hx l hl).1) (by decide))]
    · rw [pk_un e, ih i hi]
      by_cases h : i < j
      · rw [if_pos h, if_pos (by omega)]
      · rw [if_neg h, if_neg (by omega)]
theorem aoF_ok {x y : Nat → Int32} {X Y : Nat → Nat} {n : Nat} (hx : ∀ j, j < n → X j < 256 ∧ x j = nI (X j)) (hy : ∀ j, j < n → Y j < 256 ∧ y j = nI (Y j)) : ∀ m, m < n → ∀ i, i < n → aoF x y n m i = nI (anO X Y n m i)
  | 0, _, i, hi => (hy i hi).2
  | m + 1, hm, i, hi => by
    have ih := aoF_ok hx hy m (by omega)
    have hlt := anO_lt (X := X) (fun j hj => (hy j hj).1) m (by omega)
    show aiF x (aoF x y n m) (n - 1 - m) (n - 1 - m) i = nI (if i < n - 1 - m then _ else _)
    exact aiF_ok (l := n - 1 - m) (by omega) hx (fun j hj => ⟨hlt j hj, ih j hj⟩) (n - 1 - m) (Nat.le_refl _) i hi
theorem avF_ok {x z : Nat → Int32} {X Z : Nat → Nat} {n : Nat} (hx : ∀ j, j < n → X j < 256 ∧ x j = nI (X j)) (hz : ∀ j, j < n → Z j < 256 ∧ z j = nI (Z j)) : ∀ l, l < n → anV X Z l < 256 ∧ avF x z l = nI (anV X Z l)
  | 0, h => hz 0 h
  | l + 1, h => by
    obtain ⟨h1, h2⟩ := avF_ok hx hz l (by omega)
    obtain ⟨h3, h4⟩ := hx (l + 1) h
    obtain ⟨h5, h6⟩ := hz (l + 1) h
    refine ⟨xor_lt h5 (gm_lt h3 h1), ?_⟩
    show z (l + 1) ^^^ fProd (x (l + 1)) (avF x z l) = nI (Z (l + 1) ^^^ gm (X (l + 1)) (anV X Z l))
    rw [h2, h4, h6, fProd_gm h3 h1, nx_xor]
