section
theorem mg_t7 : (2147483647 : Int64).toInt = 2147483647 := by decide
theorem mg_t8 : (2147483648 : Int64).toInt = 2147483648 := by decide
/-- without a minus: above the largest int is at or above the next number -/
theorem mg_up {m : Int64} (h : (2147483647 : Int64) < m) : (2147483648 : Int64) ≤ m := by
  rw [Int64.lt_iff_toInt_lt, mg_t7] at h
  rw [Int64.le_iff_toInt_le, mg_t8]
  omega
theorem mg_dn {m : Int64} (h : ¬ (2147483647 : Int64) < m) : ¬ (2147483648 : Int64) ≤ m := by
  rw [Int64.lt_iff_toInt_lt, mg_t7] at h
  rw [Int64.le_iff_toInt_le, mg_t8]
  omega
/-- with a minus: above 2147483648 is at or above it and not it -/
theorem mg_ge {m : Int64} (h : (2147483648 : Int64) < m) : (2147483648 : Int64) ≤ m := by
  rw [Int64.lt_iff_toInt_lt] at h
  rw [Int64.le_iff_toInt_le]
  omega
theorem mg_ne {m : Int64} (h : (2147483648 : Int64) < m) : ¬ m = 2147483648 := by
  intro e
  rw [e, Int64.lt_iff_toInt_lt] at h
  omega
theorem mg_eq {m : Int64} (h : ¬ (2147483648 : Int64) < m) (g : (2147483648 : Int64) ≤ m) : m = 2147483648 := by
  rw [Int64.lt_iff_toInt_lt] at h
  rw [Int64.le_iff_toInt_le] at g
  exact Int64.toInt_inj.mp (by omega)
end
section
/-- both sides keep the same magnitude, the same minus flag and the same started flag -/
def i_Rel (_ : Nat) (u : SX) (v : SY) : Prop := u = v
theorem i_up {k : Nat} {u : SX} {v : SY} (h : i_Rel k u v) : i_Rel (k + 2) u v := h
theorem i_vc0 : wpX_init (fun u => wpY_init (fun v => i_Rel 0 u v)) := rfl
theorem i_vc_minus {k : Nat} {u : SX} {v : SY} (I : i_Rel k u v) (hk : k + 2 ≤ 1024) : wpX_minus (fun r u' => wpY_minus (fun r' v' => r' = r ∧ i_Rel (k + 2) u' v') v) u := by
  cases I
  obtain ⟨m, n, s⟩ := u
  by_cases hn : n = 0
  · by_cases hs : s = 0
    · exact br_t hn (br_t hs (br_t hn (br_t hs ⟨rfl, rfl⟩)))
    · exact br_t hn (br_f hs (br_t hn (br_f hs ⟨rfl, rfl⟩)))
  · exact br_f hn (br_f hn ⟨rfl, rfl⟩)
theorem i_vc_digit {k : Nat} {u : SX} {v : SY} (I : i_Rel k u v) (hk : k + 2 ≤ 1024) (v1 : Int32) : wpX_digit (fun r u' => wpY_digit (fun r' v' => r' = r ∧ i_Rel (k + 2) u' v') v v1) u v1 := by
  cases I
  obtain ⟨m, n, s⟩ := u
  by_cases h0 : v1 < 0
  · exact br_t h0 (br_t h0 ⟨rfl, rfl⟩)
  · by_cases h9 : v1 ≤ 9
    · refine br_f h0 (br_t h9 fun x ex => ?_)
      by_cases hx : x ≤ 2147483648
      · refine br_t hx (br_f h0 (br_t h9 fun y ey => ?_))
        cases ey.trans ex.symm
        exact br_t hx ⟨rfl, rfl⟩
      · refine br_f hx (br_f h0 (br_t h9 fun y ey => ?_))
        cases ey.trans ex.symm
        exact br_f hx ⟨rfl, rfl⟩
    · exact br_f h0 (br_f h9 (br_f h0 (br_f h9 ⟨rfl, rfl⟩)))
theorem i_vc_verdict {k : Nat} {u : SX} {v : SY} (I : i_Rel k u v) (hk : k + 2 ≤ 1024) : wpX_verdict (fun r => wpY_verdict (fun r' => r' = r ∧ i_Rel (k + 2) u v) v) u := by
  cases I
  obtain ⟨m, n, s⟩ := u
  by_cases hn : n = 0
  · by_cases h : (2147483647 : Int64) < m
    · exact br_t hn (br_t h (br_t (mg_up h) (br_c (fun _ => br_t hn ⟨rfl, rfl⟩) (fun _ => ⟨rfl, rfl⟩))))
    · exact br_t hn (br_f h (br_f (mg_dn h) ⟨rfl, rfl⟩))
  · by_cases h : (2147483648 : Int64) < m
    · exact br_f hn (br_t h (br_t (mg_ge h) (br_f (mg_ne h) ⟨rfl, rfl⟩)))
    · exact br_f hn (br_f h (br_c (fun g => br_t (mg_eq h g) (br_f hn ⟨rfl, rfl⟩)) (fun _ => ⟨rfl, rfl⟩)))
theorem i_vc_asInt {k : Nat} {u : SX} {v : SY} (I : i_Rel k u v) (hk : k + 2 ≤ 1024) : wpX_asInt (fun r => wpY_asInt (fun r' => r' = r ∧ i_Rel (k + 2) u v) v) u := by
  cases I
  obtain ⟨m, n, s⟩ := u
  by_cases hn : n = 0
  · exact br_t hn (br_t hn ⟨rfl, rfl⟩)
  · exact br_f hn (br_f hn fun x ex => ⟨by rw [ex, Int64.toInt32_neg], rfl⟩)
end
