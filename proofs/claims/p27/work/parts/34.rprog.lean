/-! the reference: the form of a program -/
section S34
variable {l : Launch} {G : Gx}
end S34
