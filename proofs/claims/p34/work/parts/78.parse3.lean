/-! READING a text: the reference's gates and settings -/
section RDR3
variable {E : xm_E} {l : Launch} {M M1 : xm_M} {x f0 t : Nat → Int32} {n : Nat} {s : xS}
/-- which setting's word stands next; 8: none -/
def stI (x : Nat → Int32) (n : Nat) (s : xS) : Nat := if swd x n 6 s = true then 0 else if swd x n 7 s = true then 1 else if swd x n 8 s = true then 2 else if swd x n 9 s = true then 3 else if swd x n 10 s = true then 4 else if swd x n 11 s = true then 5 else if swd x n 12 s = true then 6 else if swd x n 13 s = true then 7 else 8
end RDR3
