def Rel (_ : Mem) (_ _ : Nat) : Prop := True
theorem law_ops : LawOps Rel := sorry
theorem law_init : LawInit Rel := sorry
