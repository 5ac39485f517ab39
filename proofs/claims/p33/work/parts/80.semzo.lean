def kF (W : Wt) (S : Nat → Bool) (t : Nat) : Bool := S t && decide (t < nmen W)
