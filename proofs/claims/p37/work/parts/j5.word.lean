/-! THE REFERENCE: words out of longs, KEYS and texts; records changed -/
def lwF (a : Int) : Nat → List Int
  | 0 => []
  | k + 1 => (if a / ((2 ^ (8 * k) : Nat) : Int) % 256 = 0 then [] else [a / ((2 ^ (8 * k) : Nat) : Int) % 256]) ++ lwF a k
def lw (a : Int) : List Int := lwF a 8
