/-! The tape's word, as our own look reads it. -/
def wdl (t : tab) : Nat → Int → Int → Int
  | 0, _, _ => 0
  | d + 1, y, i => if t 97 1 ≤ i then y else if i = 8 then 0 else if alz (atb t i) ≠ 0 then wdl t d (lo (lsl y 8) (atb t i)) (i + 1) else 0
def wdz (t : tab) : Int := wdl t 9 0 0
