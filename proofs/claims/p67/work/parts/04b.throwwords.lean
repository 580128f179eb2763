/-- words that hold at each state, though they aren't of the good ones -/
def am_nw (w : Cond) : Bool := match w with
  | .methodLinkNest .. => true
  | .declares _ => true
  | .castable .. => true
  | _ => false
/-- an exception's class, by number: its name, its superclasses up to Throwable's -/
def am_X (k : Nat) : String × List String := match k with
  | 0 => ("java/lang/IllegalStateException", ["java/lang/RuntimeException", "java/lang/Exception"])
  | 1 => ("java/lang/IllegalArgumentException", ["java/lang/RuntimeException", "java/lang/Exception"])
  | _ => ("java/lang/IndexOutOfBoundsException", ["java/lang/RuntimeException", "java/lang/Exception"])
