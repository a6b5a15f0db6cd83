-- one round of the law's loop: read
section WA
variable {sh : am_Sh} {c : Nat} {W : am_M}
abbrev outk : am_V := am_R (some (30, 0, 0))
theorem lg_self (x : Int64) : lg_cmp x x = 0 := by
  unfold lg_cmp
  simp
/-- after a call of the class (memory W1, then its answer laid down) and one of the reference -/
theorem Jn_one {c' : Nat} {X W1 W2 : am_M} (h : Jn sh c' X W2) (e : ∀ k j, k.1 < 11 → W2 k j = X k j) : Jn sh c' W2 W2 := Jn_X h e
end WA
