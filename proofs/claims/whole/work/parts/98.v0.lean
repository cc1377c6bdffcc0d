-- 98: the relation (open)
def V0 : gV := fun _ _ _ => True
theorem V0_ok : lawOK V0 := sorry
theorem V0_0 : V0 IC0 IM0 J00 := trivial
