section TXZ
variable {W : tm_W} {m : Nat → Nat → Int32} {l : Nat → Nat → Int64} {f g : Nat → Int32}
theorem pgC_o (L : List Nat) {x : Nat} (h1 : x ≠ 3) (h2 : x ≠ 4) : pgC m L x = m x := apM_o h1 h2 _ _ _
theorem pgR_o (L : List Nat) {x : Nat} (h1 : x ≠ 39) (h2 : x ≠ 57) : pgR m L x = m x := apM_o h1 h2 _ _ _
theorem la1 (L : List Nat) (v : Nat) : (L ++ [v]).length = L.length + 1 := by rw [List.length_append]; rfl
theorem la2 (L : List Nat) (x : Nat) : (L ++ dgs x).length ≤ L.length + 2 := by
  have := dgs_len x
  rw [List.length_append]
  omega
end TXZ
