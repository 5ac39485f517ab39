theorem mu_self {w : Mem} {a k : Nat} {x : Int32} (h : w a k = x) : mupd w a k x = w := by
  funext b
  by_cases e : b = a
  · subst e; rw [m_eq]; exact upd_self h
  · exact m_ne e
theorem bchk_1 : bchk 1 = some 1 := rfl
theorem bchk_0 : bchk 0 = some 0 := rfl
