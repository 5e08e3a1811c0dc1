/-! READING a text: the reference's reads -/
def wn : List Nat := [6, 8, 9, 10, 11, 12, 14, 15]
section RDR5
variable {E : xm_E} {l : Launch} {M M1 : xm_M} {x f0 t : Nat → Int32} {n : Nat} {s : xS}
end RDR5
