/-! What the reference's loops compute: numbers, given shares, splitting. -/
theorem nI_toN (x : Int32) : nI (toN x) = x := by
  apply Int32.toBitVec_inj.1
  show BitVec.ofNat 32 x.toBitVec.toNat = x.toBitVec
  simp
theorem ix9 (v k : Nat) : 9 * nI v + nI k = nI (9 * v + k) := by
  rw [show (9 : Int32) * nI v = nI (9 * v) from pk_mul 9 v, nI_add]
theorem quo_eq {a b : Nat} (ha : a < 256) (hb : 0 < b ∧ b < 16) : fProd (nI (gm a (iv b))) (nI b) = nI a := by
  rw [fProd_gm (gm_lt ha (iv_lt b)) (by omega), (gm_div ha hb.2 (by omega) (gm_lt ha (iv_lt b))).mpr rfl]
theorem quo_ne {a b k : Nat} (ha : a < 256) (hb : 0 < b ∧ b < 16) (hk : k < gm a (iv b)) : ¬ fProd (nI k) (nI b) = nI a := by
  have h1 := gm_lt ha (iv_lt b)
  intro e
  rw [fProd_gm (by omega) (by omega), nI_eq (Nat.lt_trans (gm_lt (by omega) (by omega)) (by decide)) (by omega)] at e
  have := (gm_div ha hb.2 (by omega) (by omega)).mp e
  omega
/-- nothing given -/
def dgF (gg : Nat → Int32) (v : Nat) : Nat → Nat → Int32
  | 0 => gg
  | k + 1 => upd (dgF gg v k) (9 * v + k) 0
/-- how many are given -/
def gtF (gg : Nat → Int32) (v : Nat) : Nat → Nat
  | 0 => 0
  | k + 1 => if gg (9 * v + (k + 1)) = 0 then gtF gg v k else gtF gg v k + 1
theorem gtF_le (gg : Nat → Int32) (v : Nat) : ∀ k, gtF gg v k ≤ k
  | 0 => Nat.le_refl 0
  | k + 1 => by
    have := gtF_le gg v k
    unfold gtF
    split <;> omega
/-- which are given -/
def gsF (gg : Nat → Int32) (v : Nat) : Nat → Nat
  | 0 => 0
  | k + 1 => if gg (9 * v + (k + 1)) = 0 then gsF gg v k else gsF gg v k ||| 2 ^ (k + 1)
theorem bdF_le (gb sb : Nat → Int32) (v : Nat) (k : Int32) (x y : Nat → Int32) : ∀ i, (bdF gb sb v k x y i).2.2 ≤ i
  | 0 => Nat.le_refl 0
  | i + 1 => by
    have := bdF_le gb sb v k x y i
    unfold bdF
    split
    · omega
    · exact Nat.succ_le_succ this
/-- given shares put together, byte after byte: points, values, the word -/
def tgF (gg hh : Nat → Int32) (v m0 : Nat) (xx yy : Nat → Int32) : Nat → (Nat → Int32) × (Nat → Int32) × Int32
  | 0 => (xx, yy, 0)
  | k + 1 => ((bdF gg hh v (nI k) (tgF gg hh v m0 xx yy k).1 (tgF gg hh v m0 xx yy k).2.1 8).1,
      aoF (bdF gg hh v (nI k) (tgF gg hh v m0 xx yy k).1 (tgF gg hh v m0 xx yy k).2.1 8).1 (bdF gg hh v (nI k) (tgF gg hh v m0 xx yy k).1 (tgF gg hh v m0 xx yy k).2.1 8).2.1 (m0 + 1) m0,
      ((tgF gg hh v m0 xx yy k).2.2 <<< ((8 : Int32) &&& 31)) ||| avF (bdF gg hh v (nI k) (tgF gg hh v m0 xx yy k).1 (tgF gg hh v m0 xx yy k).2.1 8).1 (aoF (bdF gg hh v (nI k) (tgF gg hh v m0 xx yy k).1 (tgF gg hh v m0 xx yy k).2.1 8).1 (bdF gg hh v (nI k) (tgF gg hh v m0 xx yy k).1 (tgF gg hh v m0 xx yy k).2.1 8).2.1 (m0 + 1) m0) m0)
/-- splitting: one coin's turn over the eight numbers -/
def cxF (x : Nat → Int32) : Nat → Nat → Int32
  | 0 => x
  | k + 1 => upd (cxF x k) k (fProd (cxF x k k) (nI (k + 1)))
def cyF (x y : Nat → Int32) (c : Int32) : Nat → Nat → Int32
  | 0 => y
  | k + 1 => upd (cyF x y c k) k (cyF x y c k k ^^^ fProd c (upd (cxF x k) k (fProd (cxF x k k) (nI (k + 1))) k))
/-- coin after coin: p of them, from coin b on -/
def bxF (x : Nat → Int32) : Nat → Nat → Int32
  | 0 => x
  | p + 1 => cxF (bxF x p) 8
def byF (x y pu : Nat → Int32) (n b : Nat) : Nat → Nat → Int32
  | 0 => y
  | p + 1 => cyF (bxF x p) (byF x y pu n b p) (pyR pu n (b + p) 0) 8
def ctF (ct y : Nat → Int32) : Nat → Nat → Int32
  | 0 => ct
  | k + 1 => upd (ctF ct y k) (k + 1) ((ctF ct y k (k + 1) <<< ((8 : Int32) &&& 31)) ||| y k)
/-- byte after byte: what is cut, x, y -/
def moF (ct xx yy pu : Nat → Int32) (n t1 n0 : Nat) (w : Int32) : Nat → (Nat → Int32) × (Nat → Int32) × (Nat → Int32)
  | 0 => (ct, xx, yy)
  | k + 1 => (ctF (moF ct xx yy pu n t1 n0 w k).1 (byF (flF (moF ct xx yy pu n t1 n0 w k).2.1 1 8) (flF (moF ct xx yy pu n t1 n0 w k).2.2 (fByt w (nI k)) 8) pu n (k * t1) t1) n0,
      bxF (flF (moF ct xx yy pu n t1 n0 w k).2.1 1 8) t1,
      byF (flF (moF ct xx yy pu n t1 n0 w k).2.1 1 8) (flF (moF ct xx yy pu n t1 n0 w k).2.2 (fByt w (nI k)) 8) pu n (k * t1) t1)
/-- digests -/
def mdF (dd ct : Nat → Int32) (v : Nat) : Nat → Nat → Int32
  | 0 => dd
  | k + 1 => upd (mdF dd ct v k) (9 * v + (k + 1)) (fMix (fMix 5 (nI (k + 1))) (ct (k + 1)))
/-- a number into bytes from place 3 on -/
def wbF (bs : Nat → Int32) (b : Int32) : Nat → Nat → Int32
  | 0 => bs
  | k + 1 => upd (wbF bs b k) (3 + k) (fByt b (nI k))
