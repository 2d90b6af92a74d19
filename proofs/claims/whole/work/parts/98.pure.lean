theorem pure_ok : ∃ (F : Nat) (Rel : xSt → xSt → Prop), Rel xC0 xM0 ∧ zOK F Rel := sorry
