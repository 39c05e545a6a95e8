/-! THE REFERENCE: all boxes, the walk -/
section MA
variable {G : Gx} {l : Launch} {S : Sh} {n : Nat} {mu T Z : Mem} {la : Lam} {r : Nat}
end MA
