/-! The fast machine's table. -/
def mq_allT : Nat → Nat → mq_T mq_Md → Prop
  | lo, hi, .leaf v => ∀ j, lo ≤ j → j < hi → mq_okM j v
  | lo, hi, .branch p a b => mq_allT lo p a ∧ mq_allT p hi b
theorem mq_al1 {j : Nat} {v : mq_Md} (h : mq_okM j v) : mq_allT j (j + 1) (.leaf v) := fun i h1 h2 => by
  have : i = j := by omega
  rw [this]
  exact h
theorem mq_al2 {lo hi p : Nat} {a b : mq_T mq_Md} (h1 : mq_allT lo p a) (h2 : mq_allT p hi b) : mq_allT lo hi (.branch p a b) := ⟨h1, h2⟩
theorem mq_all_get : ∀ (t : mq_T mq_Md) (lo hi j : Nat), mq_allT lo hi t → lo ≤ j → j < hi → mq_okM j (mq_get t j)
  | .leaf v, lo, hi, j, h, h1, h2 => h j h1 h2
  | .branch p a b, lo, hi, j, h, h1, h2 => by
    rw [mq_get_b]
    split
    · rename_i q
      exact mq_all_get b p hi j h.2 q h2
    · rename_i q
      exact mq_all_get a lo p j h.1 h1 (by omega)
theorem mq_okP_of {p : Nat} {a : mq_T mq_Md} (h1 : mq_allT 0 p a) : mq_okP (.branch p a (.leaf (.inl (0, [])))) := fun j => by
  rw [mq_get_b]
  split
  · exact Or.inl rfl
  · rename_i q
    exact mq_all_get a 0 p j h1 (Nat.zero_le _) (by omega)
theorem mq_c26 : mq_okM 26 mq_d26 := mq_w26
theorem mq_c28 : mq_okM 28 mq_d28 := mq_w28
theorem mq_c29 : mq_okM 29 mq_d29 := mq_w29
theorem mq_c30 : mq_okM 30 mq_d30 := mq_w30
theorem mq_c31 : mq_okM 31 mq_d31 := mq_w31
theorem mq_c85 : mq_okM 85 mq_d85 := mq_w85
theorem mq_c86 : mq_okM 86 mq_d86 := mq_w86
theorem mq_c87 : mq_okM 87 mq_d87 := mq_w87
theorem mq_c88 : mq_okM 88 mq_d88 := mq_w88
theorem mq_c91 : mq_okM 91 mq_d91 := mq_w91
theorem mq_c95 : mq_okM 95 mq_d95 := mq_w95
theorem mq_c96 : mq_okM 96 mq_d96 := mq_w96
theorem mq_c97 : mq_okM 97 mq_d97 := mq_w97
theorem mq_c98 : mq_okM 98 mq_d98 := mq_w98
theorem mq_c99 : mq_okM 99 mq_d99 := mq_w99
theorem mq_c100 : mq_okM 100 mq_d100 := mq_w100
theorem mq_c141 : mq_okM 141 mq_d141 := mq_w141
theorem mq_c285 : mq_okM 285 mq_d285 := mq_w285
theorem mq_c159 : mq_okM 159 mq_d159 := mq_w159
theorem mq_c221 : mq_okM 221 mq_d221 := mq_w221
theorem mq_c172 : mq_okM 172 mq_d172 := mq_w172
theorem mq_c173 : mq_okM 173 mq_d173 := mq_w173
theorem mq_c178 : mq_okM 178 mq_d178 := mq_w178
theorem mq_c179 : mq_okM 179 mq_d179 := mq_w179
theorem mq_c180 : mq_okM 180 mq_d180 := mq_w180
theorem mq_c181 : mq_okM 181 mq_d181 := mq_w181
theorem mq_c182 : mq_okM 182 mq_d182 := mq_w182
theorem mq_c184 : mq_okM 184 mq_d184 := mq_w184
theorem mq_c188 : mq_okM 188 mq_d188 := mq_w188
theorem mq_c189 : mq_okM 189 mq_d189 := mq_w189
theorem mq_c191 : mq_okM 191 mq_d191 := mq_w191
theorem mq_c195 : mq_okM 195 mq_d195 := mq_w195
theorem mq_c196 : mq_okM 196 mq_d196 := mq_w196
theorem mq_c197 : mq_okM 197 mq_d197 := mq_w197
theorem mq_c215 : mq_okM 215 mq_d215 := mq_w215
theorem mq_c242 : mq_okM 242 mq_d242 := mq_w242
theorem mq_c280 : mq_okM 280 mq_d280 := mq_w280
theorem mq_c32 : mq_okM 32 mq_d32 := Or.inl rfl
theorem mq_c33 : mq_okM 33 mq_d33 := Or.inl rfl
theorem mq_c34 : mq_okM 34 mq_d34 := Or.inl rfl
theorem mq_c89 : mq_okM 89 mq_d89 := Or.inl rfl
theorem mq_c90 : mq_okM 90 mq_d90 := Or.inl rfl
theorem mq_c92 : mq_okM 92 mq_d92 := Or.inl rfl
theorem mq_c93 : mq_okM 93 mq_d93 := Or.inl rfl
theorem mq_c94 : mq_okM 94 mq_d94 := Or.inl rfl
theorem mq_c183 : mq_okM 183 mq_d183 := Or.inl rfl
theorem mq_c186 : mq_okM 186 mq_d186 := Or.inl rfl
theorem mq_c187 : mq_okM 187 mq_d187 := Or.inl rfl
theorem mq_c190 : mq_okM 190 mq_d190 := Or.inl rfl
theorem mq_c192 : mq_okM 192 mq_d192 := Or.inl rfl
set_option maxRecDepth 100000 in
theorem mq_tab_ok : mq_okP mq_tab := mq_okP_of (mq_al2 (mq_al2 (mq_al2 (mq_al2 (mq_al2 (mq_al2 (mq_al2 (mq_al2 (mq_al2 (mq_al1 mq_c0) (mq_al1 mq_c1)) (mq_al1 mq_c2)) (mq_al2 (mq_al2 (mq_al1 mq_c3) (mq_al1 mq_c4)) (mq_al1 mq_c5))) (mq_al2 (mq_al2 (mq_al2 (mq_al1 mq_c6) (mq_al1 mq_c7)) (mq_al1 mq_c8)) (mq_al2 (mq_al1 mq_c9) (mq_al1 mq_c10)))) (mq_al2 (mq_al2 (mq_al2 (mq_al2 (mq_al1 mq_c11) (mq_al1 mq_c12)) (mq_al1 mq_c13)) (mq_al2 (mq_al2 (mq_al1 mq_c14) (mq_al1 mq_c15)) (mq_al1 mq_c16))) (mq_al2 (mq_al2 (mq_al2 (mq_al1 mq_c17) (mq_al1 mq_c18)) (mq_al1 mq_c19)) (mq_al2 (mq_al1 mq_c20) (mq_al1 mq_c21))))) (mq_al2 (mq_al2 (mq_al2 (mq_al2 (mq_al2 (mq_al1 mq_c22) (mq_al1 mq_c23)) (mq_al1 mq_c24)) (mq_al2 (mq_al2 (mq_al1 mq_c25) (mq_al1 mq_c26)) (mq_al1 mq_c27))) (mq_al2 (mq_al2 (mq_al2 (mq_al1 mq_c28) (mq_al1 mq_c29)) (mq_al1 mq_c30)) (mq_al2 (mq_al1 mq_c31) (mq_al1 mq_c32)))) (mq_al2 (mq_al2 (mq_al2 (mq_al2 (mq_al1 mq_c33) (mq_al1 mq_c34)) (mq_al1 mq_c35)) (mq_al2 (mq_al2 (mq_al1 mq_c36) (mq_al1 mq_c37)) (mq_al1 mq_c38))) (mq_al2 (mq_al2 (mq_al2 (mq_al1 mq_c39) (mq_al1 mq_c40)) (mq_al1 mq_c41)) (mq_al2 (mq_al1 mq_c42) (mq_al1 mq_c43)))))) (mq_al2 (mq_al2 (mq_al2 (mq_al2 (mq_al2 (mq_al2 (mq_al1 mq_c44) (mq_al1 mq_c45)) (mq_al1 mq_c46)) (mq_al2 (mq_al2 (mq_al1 mq_c47) (mq_al1 mq_c48)) (mq_al1 mq_c49))) (mq_al2 (mq_al2 (mq_al2 (mq_al1 mq_c50) (mq_al1 mq_c51)) (mq_al1 mq_c52)) (mq_al2 (mq_al1 mq_c53) (mq_al1 mq_c54)))) (mq_al2 (mq_al2 (mq_al2 (mq_al2 (mq_al1 mq_c55) (mq_al1 mq_c56)) (mq_al1 mq_c57)) (mq_al2 (mq_al2 (mq_al1 mq_c58) (mq_al1 mq_c59)) (mq_al1 mq_c60))) (mq_al2 (mq_al2 (mq_al2 (mq_al1 mq_c61) (mq_al1 mq_c62)) (mq_al1 mq_c63)) (mq_al2 (mq_al1 mq_c64) (mq_al1 mq_c65))))) (mq_al2 (mq_al2 (mq_al2 (mq_al2 (mq_al2 (mq_al1 mq_c66) (mq_al1 mq_c67)) (mq_al1 mq_c68)) (mq_al2 (mq_al2 (mq_al1 mq_c69) (mq_al1 mq_c70)) (mq_al1 mq_c71))) (mq_al2 (mq_al2 (mq_al2 (mq_al1 mq_c72) (mq_al1 mq_c73)) (mq_al1 mq_c74)) (mq_al2 (mq_al1 mq_c75) (mq_al1 mq_c76)))) (mq_al2 (mq_al2 (mq_al2 (mq_al2 (mq_al1 mq_c77) (mq_al1 mq_c78)) (mq_al1 mq_c79)) (mq_al2 (mq_al1 mq_c80) (mq_al1 mq_c81))) (mq_al2 (mq_al2 (mq_al2 (mq_al1 mq_c82) (mq_al1 mq_c83)) (mq_al1 mq_c84)) (mq_al2 (mq_al1 mq_c85) (mq_al1 mq_c86))))))) (mq_al2 (mq_al2 (mq_al2 (mq_al2 (mq_al2 (mq_al2 (mq_al2 (mq_al1 mq_c87) (mq_al1 mq_c88)) (mq_al1 mq_c89)) (mq_al2 (mq_al2 (mq_al1 mq_c90) (mq_al1 mq_c91)) (mq_al1 mq_c92))) (mq_al2 (mq_al2 (mq_al2 (mq_al1 mq_c93) (mq_al1 mq_c94)) (mq_al1 mq_c95)) (mq_al2 (mq_al1 mq_c96) (mq_al1 mq_c97)))) (mq_al2 (mq_al2 (mq_al2 (mq_al2 (mq_al1 mq_c98) (mq_al1 mq_c99)) (mq_al1 mq_c100)) (mq_al2 (mq_al2 (mq_al1 mq_c101) (mq_al1 mq_c102)) (mq_al1 mq_c103))) (mq_al2 (mq_al2 (mq_al2 (mq_al1 mq_c104) (mq_al1 mq_c105)) (mq_al1 mq_c106)) (mq_al2 (mq_al1 mq_c107) (mq_al1 mq_c108))))) (mq_al2 (mq_al2 (mq_al2 (mq_al2 (mq_al2 (mq_al1 mq_c109) (mq_al1 mq_c110)) (mq_al1 mq_c111)) (mq_al2 (mq_al2 (mq_al1 mq_c112) (mq_al1 mq_c113)) (mq_al1 mq_c114))) (mq_al2 (mq_al2 (mq_al2 (mq_al1 mq_c115) (mq_al1 mq_c116)) (mq_al1 mq_c117)) (mq_al2 (mq_al1 mq_c118) (mq_al1 mq_c119)))) (mq_al2 (mq_al2 (mq_al2 (mq_al2 (mq_al1 mq_c120) (mq_al1 mq_c121)) (mq_al1 mq_c122)) (mq_al2 (mq_al2 (mq_al1 mq_c123) (mq_al1 mq_c124)) (mq_al1 mq_c125))) (mq_al2 (mq_al2 (mq_al2 (mq_al1 mq_c126) (mq_al1 mq_c127)) (mq_al1 mq_c128)) (mq_al2 (mq_al1 mq_c129) (mq_al1 mq_c130)))))) (mq_al2 (mq_al2 (mq_al2 (mq_al2 (mq_al2 (mq_al2 (mq_al1 mq_c131) (mq_al1 mq_c132)) (mq_al1 mq_c133)) (mq_al2 (mq_al2 (mq_al1 mq_c134) (mq_al1 mq_c135)) (mq_al1 mq_c136))) (mq_al2 (mq_al2 (mq_al2 (mq_al1 mq_c137) (mq_al1 mq_c138)) (mq_al1 mq_c139)) (mq_al2 (mq_al1 mq_c140) (mq_al1 mq_c141)))) (mq_al2 (mq_al2 (mq_al2 (mq_al2 (mq_al1 mq_c142) (mq_al1 mq_c143)) (mq_al1 mq_c144)) (mq_al2 (mq_al2 (mq_al1 mq_c145) (mq_al1 mq_c146)) (mq_al1 mq_c147))) (mq_al2 (mq_al2 (mq_al2 (mq_al1 mq_c148) (mq_al1 mq_c149)) (mq_al1 mq_c150)) (mq_al2 (mq_al1 mq_c151) (mq_al1 mq_c152))))) (mq_al2 (mq_al2 (mq_al2 (mq_al2 (mq_al2 (mq_al1 mq_c153) (mq_al1 mq_c154)) (mq_al1 mq_c155)) (mq_al2 (mq_al2 (mq_al1 mq_c156) (mq_al1 mq_c157)) (mq_al1 mq_c158))) (mq_al2 (mq_al2 (mq_al2 (mq_al1 mq_c159) (mq_al1 mq_c160)) (mq_al1 mq_c161)) (mq_al2 (mq_al1 mq_c162) (mq_al1 mq_c163)))) (mq_al2 (mq_al2 (mq_al2 (mq_al2 (mq_al1 mq_c164) (mq_al1 mq_c165)) (mq_al1 mq_c166)) (mq_al2 (mq_al1 mq_c167) (mq_al1 mq_c168))) (mq_al2 (mq_al2 (mq_al2 (mq_al1 mq_c169) (mq_al1 mq_c170)) (mq_al1 mq_c171)) (mq_al2 (mq_al1 mq_c172) (mq_al1 mq_c173)))))))) (mq_al2 (mq_al2 (mq_al2 (mq_al2 (mq_al2 (mq_al2 (mq_al2 (mq_al2 (mq_al1 mq_c174) (mq_al1 mq_c175)) (mq_al1 mq_c176)) (mq_al2 (mq_al2 (mq_al1 mq_c177) (mq_al1 mq_c178)) (mq_al1 mq_c179))) (mq_al2 (mq_al2 (mq_al2 (mq_al1 mq_c180) (mq_al1 mq_c181)) (mq_al1 mq_c182)) (mq_al2 (mq_al1 mq_c183) (mq_al1 mq_c184)))) (mq_al2 (mq_al2 (mq_al2 (mq_al2 (mq_al1 mq_c185) (mq_al1 mq_c186)) (mq_al1 mq_c187)) (mq_al2 (mq_al2 (mq_al1 mq_c188) (mq_al1 mq_c189)) (mq_al1 mq_c190))) (mq_al2 (mq_al2 (mq_al2 (mq_al1 mq_c191) (mq_al1 mq_c192)) (mq_al1 mq_c193)) (mq_al2 (mq_al1 mq_c194) (mq_al1 mq_c195))))) (mq_al2 (mq_al2 (mq_al2 (mq_al2 (mq_al2 (mq_al1 mq_c196) (mq_al1 mq_c197)) (mq_al1 mq_c198)) (mq_al2 (mq_al2 (mq_al1 mq_c199) (mq_al1 mq_c200)) (mq_al1 mq_c201))) (mq_al2 (mq_al2 (mq_al2 (mq_al1 mq_c202) (mq_al1 mq_c203)) (mq_al1 mq_c204)) (mq_al2 (mq_al1 mq_c205) (mq_al1 mq_c206)))) (mq_al2 (mq_al2 (mq_al2 (mq_al2 (mq_al1 mq_c207) (mq_al1 mq_c208)) (mq_al1 mq_c209)) (mq_al2 (mq_al2 (mq_al1 mq_c210) (mq_al1 mq_c211)) (mq_al1 mq_c212))) (mq_al2 (mq_al2 (mq_al2 (mq_al1 mq_c213) (mq_al1 mq_c214)) (mq_al1 mq_c215)) (mq_al2 (mq_al1 mq_c216) (mq_al1 mq_c217)))))) (mq_al2 (mq_al2 (mq_al2 (mq_al2 (mq_al2 (mq_al2 (mq_al1 mq_c218) (mq_al1 mq_c219)) (mq_al1 mq_c220)) (mq_al2 (mq_al2 (mq_al1 mq_c221) (mq_al1 mq_c222)) (mq_al1 mq_c223))) (mq_al2 (mq_al2 (mq_al2 (mq_al1 mq_c224) (mq_al1 mq_c225)) (mq_al1 mq_c226)) (mq_al2 (mq_al1 mq_c227) (mq_al1 mq_c228)))) (mq_al2 (mq_al2 (mq_al2 (mq_al2 (mq_al1 mq_c229) (mq_al1 mq_c230)) (mq_al1 mq_c231)) (mq_al2 (mq_al2 (mq_al1 mq_c232) (mq_al1 mq_c233)) (mq_al1 mq_c234))) (mq_al2 (mq_al2 (mq_al2 (mq_al1 mq_c235) (mq_al1 mq_c236)) (mq_al1 mq_c237)) (mq_al2 (mq_al1 mq_c238) (mq_al1 mq_c239))))) (mq_al2 (mq_al2 (mq_al2 (mq_al2 (mq_al2 (mq_al1 mq_c240) (mq_al1 mq_c241)) (mq_al1 mq_c242)) (mq_al2 (mq_al2 (mq_al1 mq_c243) (mq_al1 mq_c244)) (mq_al1 mq_c245))) (mq_al2 (mq_al2 (mq_al2 (mq_al1 mq_c246) (mq_al1 mq_c247)) (mq_al1 mq_c248)) (mq_al2 (mq_al1 mq_c249) (mq_al1 mq_c250)))) (mq_al2 (mq_al2 (mq_al2 (mq_al2 (mq_al1 mq_c251) (mq_al1 mq_c252)) (mq_al1 mq_c253)) (mq_al2 (mq_al1 mq_c254) (mq_al1 mq_c255))) (mq_al2 (mq_al2 (mq_al2 (mq_al1 mq_c256) (mq_al1 mq_c257)) (mq_al1 mq_c258)) (mq_al2 (mq_al1 mq_c259) (mq_al1 mq_c260))))))) (mq_al2 (mq_al2 (mq_al2 (mq_al2 (mq_al2 (mq_al2 (mq_al2 (mq_al1 mq_c261) (mq_al1 mq_c262)) (mq_al1 mq_c263)) (mq_al2 (mq_al2 (mq_al1 mq_c264) (mq_al1 mq_c265)) (mq_al1 mq_c266))) (mq_al2 (mq_al2 (mq_al2 (mq_al1 mq_c267) (mq_al1 mq_c268)) (mq_al1 mq_c269)) (mq_al2 (mq_al1 mq_c270) (mq_al1 mq_c271)))) (mq_al2 (mq_al2 (mq_al2 (mq_al2 (mq_al1 mq_c272) (mq_al1 mq_c273)) (mq_al1 mq_c274)) (mq_al2 (mq_al2 (mq_al1 mq_c275) (mq_al1 mq_c276)) (mq_al1 mq_c277))) (mq_al2 (mq_al2 (mq_al2 (mq_al1 mq_c278) (mq_al1 mq_c279)) (mq_al1 mq_c280)) (mq_al2 (mq_al1 mq_c281) (mq_al1 mq_c282))))) (mq_al2 (mq_al2 (mq_al2 (mq_al2 (mq_al2 (mq_al1 mq_c283) (mq_al1 mq_c284)) (mq_al1 mq_c285)) (mq_al2 (mq_al2 (mq_al1 mq_c286) (mq_al1 mq_c287)) (mq_al1 mq_c288))) (mq_al2 (mq_al2 (mq_al2 (mq_al1 mq_c289) (mq_al1 mq_c290)) (mq_al1 mq_c291)) (mq_al2 (mq_al1 mq_c292) (mq_al1 mq_c293)))) (mq_al2 (mq_al2 (mq_al2 (mq_al2 (mq_al1 mq_c294) (mq_al1 mq_c295)) (mq_al1 mq_c296)) (mq_al2 (mq_al1 mq_c297) (mq_al1 mq_c298))) (mq_al2 (mq_al2 (mq_al2 (mq_al1 mq_c299) (mq_al1 mq_c300)) (mq_al1 mq_c301)) (mq_al2 (mq_al1 mq_c302) (mq_al1 mq_c303)))))) (mq_al2 (mq_al2 (mq_al2 (mq_al2 (mq_al2 (mq_al2 (mq_al1 mq_c304) (mq_al1 mq_c305)) (mq_al1 mq_c306)) (mq_al2 (mq_al2 (mq_al1 mq_c307) (mq_al1 mq_c308)) (mq_al1 mq_c309))) (mq_al2 (mq_al2 (mq_al2 (mq_al1 mq_c310) (mq_al1 mq_c311)) (mq_al1 mq_c312)) (mq_al2 (mq_al1 mq_c313) (mq_al1 mq_c314)))) (mq_al2 (mq_al2 (mq_al2 (mq_al2 (mq_al1 mq_c315) (mq_al1 mq_c316)) (mq_al1 mq_c317)) (mq_al2 (mq_al2 (mq_al1 mq_c318) (mq_al1 mq_c319)) (mq_al1 mq_c320))) (mq_al2 (mq_al2 (mq_al2 (mq_al1 mq_c321) (mq_al1 mq_c322)) (mq_al1 mq_c323)) (mq_al2 (mq_al1 mq_c324) (mq_al1 mq_c325))))) (mq_al2 (mq_al2 (mq_al2 (mq_al2 (mq_al2 (mq_al1 mq_c326) (mq_al1 mq_c327)) (mq_al1 mq_c328)) (mq_al2 (mq_al2 (mq_al1 mq_c329) (mq_al1 mq_c330)) (mq_al1 mq_c331))) (mq_al2 (mq_al2 (mq_al2 (mq_al1 mq_c332) (mq_al1 mq_c333)) (mq_al1 mq_c334)) (mq_al2 (mq_al1 mq_c335) (mq_al1 mq_c336)))) (mq_al2 (mq_al2 (mq_al2 (mq_al2 (mq_al1 mq_c337) (mq_al1 mq_c338)) (mq_al1 mq_c339)) (mq_al2 (mq_al1 mq_c340) (mq_al1 mq_c341))) (mq_al2 (mq_al2 (mq_al2 (mq_al1 mq_c342) (mq_al1 mq_c343)) (mq_al1 mq_c344)) (mq_al2 (mq_al1 mq_c345) (mq_al1 mq_c346)))))))))
