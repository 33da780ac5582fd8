/-! Of the reference and of numbers (as in p1, part 78z). -/
section JST
variable {ρ : Nat → Nat}  {bg bg' : Nat → Int32} {v w q z : Int}
theorem jst.acc (h : jst ρ d bg v w q) (h1 : jrs bg' 659 z) (h2 : jrf bg bg' 659) : jst ρ d bg' z w q := ⟨fun s s1 s2 s3 s4 => jrs_keep (h.1 s s1 s2 s3 s4) h2 s2, h1, jrs_keep h.2.2.1 h2 (by decide), jrs_keep h.2.2.2 h2 (by decide)⟩
theorem jst.pow (h : jst ρ d bg v w q) (h1 : jrs bg' 660 z) (h2 : jrf bg bg' 660) : jst ρ d bg' v z q := ⟨fun s s1 s2 s3 s4 => jrs_keep (h.1 s s1 s2 s3 s4) h2 s3, jrs_keep h.2.1 h2 (by decide), h1, jrs_keep h.2.2.2 h2 (by decide)⟩
theorem jst.part (h : jst ρ d bg v w q) (h1 : jrs bg' 652 z) (h2 : jrf bg bg' 652) : jst ρ d bg' v w z := ⟨fun s s1 s2 s3 s4 => jrs_keep (h.1 s s1 s2 s3 s4) h2 s4, jrs_keep h.2.1 h2 (by decide), jrs_keep h.2.2.1 h2 (by decide), h1⟩
end JST
section JSV
variable {D : Nat} {ρ : Nat → Nat} {hp : mj_H} {q0 q1 q2 q3 p : Nat} {fs : List Value} {db : Nat → Value} 
end JSV
