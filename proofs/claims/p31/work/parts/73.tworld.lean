/-! ===== a trial world of the model ===== -/
section
variable {S S' S0 S1 : sT} {E : eT} {X X' : Nat → Nat → Nat} {N N' : yT}
abbrev fT0 (E : eT) : fT := (E.1, E.2.1, False)
/-- what a trial leaves as it is -/
def TP (S0 : sT) (S : sT) : Prop := FRM no_ no_ S0 S ∧ (AL S0 → AL S)
end
