/-! What more loops of the class compute. -/
def tiF (ring : Nat → Int32) (f : Nat) : Nat → Int32
  | 0 => 0
  | k + 1 => (tiF ring f k <<< ((8 : Int32) &&& 31)) ||| tkR ring f k ((f + k) % 64)
