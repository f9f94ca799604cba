theorem mg_t7 : (2147483647 : Int64).toInt = 2147483647 := by decide
theorem mg_t8 : (2147483648 : Int64).toInt = 2147483648 := by decide
/-- without a minus: above the largest int is at or above the next number -/
theorem mg_up {m : Int64} (h : (2147483647 : Int64) < m) : (2147483648 : Int64) ≤ m := by
  rw [Int64.lt_iff_toInt_lt, mg_t7] at h
  rw [Int64.le_iff_toInt_le, mg_t8]
  omega
theorem mg_dn {m : Int64} (h : ¬ (2147483647 : Int64) < m) : ¬ (2147483648 : Int64) ≤ m := by
  rw [Int64.lt_iff_toInt_lt, mg_t7] at h
  rw [Int64.le_iff_toInt_le, mg_t8]
  omega
/-- with a minus: above 2147483648 is at or above it and not it -/
theorem mg_ge {m : Int64} (h : (2147483648 : Int64) < m) : (2147483648 : Int64) ≤ m := by
  rw [Int64.lt_iff_toInt_lt] at h
  rw [Int64.le_iff_toInt_le]
  omega
theorem mg_ne {m : Int64} (h : (2147483648 : Int64) < m) : ¬ m = 2147483648 := by
  intro e
  rw [e, Int64.lt_iff_toInt_lt] at h
  omega
theorem mg_eq {m : Int64} (h : ¬ (2147483648 : Int64) < m) (g : (2147483648 : Int64) ≤ m) : m = 2147483648 := by
  rw [Int64.lt_iff_toInt_lt] at h
  rw [Int64.le_iff_toInt_le] at g
  exact Int64.toInt_inj.mp (by omega)
