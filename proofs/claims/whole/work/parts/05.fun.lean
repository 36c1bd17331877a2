/-! What the leaves of the class compute. -/
def xushr (x y : Int32) : Int32 := (x.toUInt32 >>> (y.toUInt32 &&& Int32.toUInt32 31)).toInt32
def fMix (h x : Int32) : Int32 := ((h ^^^ x) * 668265263 + 374761393) ^^^ (xushr ((h ^^^ x) * 668265263 + 374761393) 15)
def fDig (i x : Int32) : Int32 := fMix (fMix 5 i) x
def fPad (k c : Int32) : Int32 := fMix (fMix k c) 1
def fTag (k c b : Int32) : Int32 := fMix (fMix (fMix k 2) c) b &&& 65535
def fIsB (b : Int32) : Int32 := if b < 0 then 0 else if 255 < b then 0 else 1
def fIsE (t n : Int32) : Int32 := if t < 1 then 0 else if n < t then 0 else if 8 < n then 0 else 1
/-- the product, step by step: the sum, and what is added next -/
def prF (a b : Int32) : Nat → Int32 × Int32
  | 0 => (0, a)
  | k + 1 => (if (b >>> (nI k &&& 31)) &&& 1 = 0 then (prF a b k).1 else (prF a b k).1 ^^^ (prF a b k).2, if (prF a b k).2 <<< ((1 : Int32) &&& 31) ≤ 255 then (prF a b k).2 <<< ((1 : Int32) &&& 31) else ((prF a b k).2 <<< ((1 : Int32) &&& 31)) ^^^ 283)
def fProd (a b : Int32) : Int32 := (prF a b 8).1
/-- the inverse: the power, the result -/
def ivF (a : Int32) : Nat → Int32 × Int32
  | 0 => (a, 1)
  | k + 1 => (fProd (ivF a k).1 (ivF a k).1, fProd (ivF a k).2 (fProd (ivF a k).1 (ivF a k).1))
def fInv (a : Int32) : Int32 := (ivF a 7).2
/-- version's own: given, weight, scaled share, sum -/
def fGiv (g i : Int32) : Int32 := if (g >>> (i &&& 31)) &&& 1 = 0 then 0 else 1
def wzF (g i : Int32) : Nat → Int32
  | 0 => 1
  | j + 1 => if nI (j + 1) = i then wzF g i j else if fGiv g (nI (j + 1)) = 0 then wzF g i j else fProd (wzF g i j) (fProd (nI (j + 1)) (fInv (nI (j + 1) ^^^ i)))
def scF (x w : Int32) : Nat → Int32
  | 0 => 0
  | o + 1 => (scF x w o <<< ((8 : Int32) &&& 31)) ||| fProd (xushr x (8 * nI (3 - o)) &&& 255) w
def ptF (g : Int32) (gs : Nat → Int32) : Nat → Int32
  | 0 => 0
  | i + 1 => if fGiv g (nI (i + 1)) = 0 then ptF g gs i else ptF g gs i ^^^ scF (gs (i + 1)) (wzF g (nI (i + 1)) 8) 4
