def eE (M : tMd) (nm : Nat → Int) : Nat → Nat → Int → Nat
  | 0, e, _ => e
  | d + 1, e, f => if oneB M f (nm e) = true then eE M nm d (e + 1) f else e