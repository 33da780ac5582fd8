/-! The methods that store no bytes and leave the place of the error. -/
def jqcl (j : Nat) : Bool := !([80, 81, 82, 83, 84, 101, 114, 141, 144, 148, 322, 344, 345].contains j)
theorem jq_look {cl : Nat → Bool} {l : List (Option mj_I)} (h : (l.all fun o => match o with | none => true | some I => jQi cl I) = true) : ∀ pc I, mj_look l pc = some I → jQi cl I = true := by
  intro pc I hI
  unfold mj_look at hI
  split at hI
  · rename_i x hx
    subst hI
    exact List.all_eq_true.mp h _ (List.mem_of_getElem? hx)
  · cases hI
def jqM (M : mj_M) : Prop := ∀ pc I, M.2.2.2.2.1 pc = some I → jQi jqcl I = true
theorem jq_k0 : (mj_l0.all fun o => match o with | none => true | some I => jQi jqcl I) = true := by decide +kernel
theorem jq_k1 : (mj_l1.all fun o => match o with | none => true | some I => jQi jqcl I) = true := by decide +kernel
theorem jq_k2 : (mj_l2.all fun o => match o with | none => true | some I => jQi jqcl I) = true := by decide +kernel
theorem jq_k3 : (mj_l3.all fun o => match o with | none => true | some I => jQi jqcl I) = true := by decide +kernel
theorem jq_k4 : (mj_l4.all fun o => match o with | none => true | some I => jQi jqcl I) = true := by decide +kernel
theorem jq_k5 : (mj_l5.all fun o => match o with | none => true | some I => jQi jqcl I) = true := by decide +kernel
theorem jq_k6 : (mj_l6.all fun o => match o with | none => true | some I => jQi jqcl I) = true := by decide +kernel
theorem jq_k7 : (mj_l7.all fun o => match o with | none => true | some I => jQi jqcl I) = true := by decide +kernel
theorem jq_k8 : (mj_l8.all fun o => match o with | none => true | some I => jQi jqcl I) = true := by decide +kernel
theorem jq_k9 : (mj_l9.all fun o => match o with | none => true | some I => jQi jqcl I) = true := by decide +kernel
theorem jq_k10 : (mj_l10.all fun o => match o with | none => true | some I => jQi jqcl I) = true := by decide +kernel
theorem jq_k11 : (mj_l11.all fun o => match o with | none => true | some I => jQi jqcl I) = true := by decide +kernel
theorem jq_k12 : (mj_l12.all fun o => match o with | none => true | some I => jQi jqcl I) = true := by decide +kernel
theorem jq_k13 : (mj_l13.all fun o => match o with | none => true | some I => jQi jqcl I) = true := by decide +kernel
theorem jq_k14 : (mj_l14.all fun o => match o with | none => true | some I => jQi jqcl I) = true := by decide +kernel
theorem jq_k15 : (mj_l15.all fun o => match o with | none => true | some I => jQi jqcl I) = true := by decide +kernel
theorem jq_k16 : (mj_l16.all fun o => match o with | none => true | some I => jQi jqcl I) = true := by decide +kernel
theorem jq_k17 : (mj_l17.all fun o => match o with | none => true | some I => jQi jqcl I) = true := by decide +kernel
theorem jq_k18 : (mj_l18.all fun o => match o with | none => true | some I => jQi jqcl I) = true := by decide +kernel
theorem jq_k19 : (mj_l19.all fun o => match o with | none => true | some I => jQi jqcl I) = true := by decide +kernel
theorem jq_k20 : (mj_l20.all fun o => match o with | none => true | some I => jQi jqcl I) = true := by decide +kernel
theorem jq_k21 : (mj_l21.all fun o => match o with | none => true | some I => jQi jqcl I) = true := by decide +kernel
theorem jq_k22 : (mj_l22.all fun o => match o with | none => true | some I => jQi jqcl I) = true := by decide +kernel
theorem jq_k23 : (mj_l23.all fun o => match o with | none => true | some I => jQi jqcl I) = true := by decide +kernel
theorem jq_k24 : (mj_l24.all fun o => match o with | none => true | some I => jQi jqcl I) = true := by decide +kernel
theorem jq_k25 : (mj_l25.all fun o => match o with | none => true | some I => jQi jqcl I) = true := by decide +kernel
theorem jq_k26 : (mj_l26.all fun o => match o with | none => true | some I => jQi jqcl I) = true := by decide +kernel
theorem jq_k27 : (mj_l27.all fun o => match o with | none => true | some I => jQi jqcl I) = true := by decide +kernel
theorem jq_k28 : (mj_l28.all fun o => match o with | none => true | some I => jQi jqcl I) = true := by decide +kernel
theorem jq_k29 : (mj_l29.all fun o => match o with | none => true | some I => jQi jqcl I) = true := by decide +kernel
theorem jq_k30 : (mj_l30.all fun o => match o with | none => true | some I => jQi jqcl I) = true := by decide +kernel
theorem jq_k31 : (mj_l31.all fun o => match o with | none => true | some I => jQi jqcl I) = true := by decide +kernel
theorem jq_k32 : (mj_l32.all fun o => match o with | none => true | some I => jQi jqcl I) = true := by decide +kernel
theorem jq_k33 : (mj_l33.all fun o => match o with | none => true | some I => jQi jqcl I) = true := by decide +kernel
theorem jq_k34 : (mj_l34.all fun o => match o with | none => true | some I => jQi jqcl I) = true := by decide +kernel
theorem jq_k35 : (mj_l35.all fun o => match o with | none => true | some I => jQi jqcl I) = true := by decide +kernel
theorem jq_k36 : (mj_l36.all fun o => match o with | none => true | some I => jQi jqcl I) = true := by decide +kernel
theorem jq_k37 : (mj_l37.all fun o => match o with | none => true | some I => jQi jqcl I) = true := by decide +kernel
theorem jq_k38 : (mj_l38.all fun o => match o with | none => true | some I => jQi jqcl I) = true := by decide +kernel
theorem jq_k39 : (mj_l39.all fun o => match o with | none => true | some I => jQi jqcl I) = true := by decide +kernel
theorem jq_k40 : (mj_l40.all fun o => match o with | none => true | some I => jQi jqcl I) = true := by decide +kernel
theorem jq_k41 : (mj_l41.all fun o => match o with | none => true | some I => jQi jqcl I) = true := by decide +kernel
theorem jq_k42 : (mj_l42.all fun o => match o with | none => true | some I => jQi jqcl I) = true := by decide +kernel
theorem jq_k43 : (mj_l43.all fun o => match o with | none => true | some I => jQi jqcl I) = true := by decide +kernel
theorem jq_k44 : (mj_l44.all fun o => match o with | none => true | some I => jQi jqcl I) = true := by decide +kernel
theorem jq_k45 : (mj_l45.all fun o => match o with | none => true | some I => jQi jqcl I) = true := by decide +kernel
theorem jq_k46 : (mj_l46.all fun o => match o with | none => true | some I => jQi jqcl I) = true := by decide +kernel
theorem jq_k47 : (mj_l47.all fun o => match o with | none => true | some I => jQi jqcl I) = true := by decide +kernel
theorem jq_k48 : (mj_l48.all fun o => match o with | none => true | some I => jQi jqcl I) = true := by decide +kernel
theorem jq_k49 : (mj_l49.all fun o => match o with | none => true | some I => jQi jqcl I) = true := by decide +kernel
theorem jq_k50 : (mj_l50.all fun o => match o with | none => true | some I => jQi jqcl I) = true := by decide +kernel
theorem jq_k51 : (mj_l51.all fun o => match o with | none => true | some I => jQi jqcl I) = true := by decide +kernel
theorem jq_k52 : (mj_l52.all fun o => match o with | none => true | some I => jQi jqcl I) = true := by decide +kernel
theorem jq_k53 : (mj_l53.all fun o => match o with | none => true | some I => jQi jqcl I) = true := by decide +kernel
theorem jq_k54 : (mj_l54.all fun o => match o with | none => true | some I => jQi jqcl I) = true := by decide +kernel
theorem jq_k55 : (mj_l55.all fun o => match o with | none => true | some I => jQi jqcl I) = true := by decide +kernel
theorem jq_k56 : (mj_l56.all fun o => match o with | none => true | some I => jQi jqcl I) = true := by decide +kernel
theorem jq_k57 : (mj_l57.all fun o => match o with | none => true | some I => jQi jqcl I) = true := by decide +kernel
theorem jq_k58 : (mj_l58.all fun o => match o with | none => true | some I => jQi jqcl I) = true := by decide +kernel
theorem jq_k59 : (mj_l59.all fun o => match o with | none => true | some I => jQi jqcl I) = true := by decide +kernel
theorem jq_k60 : (mj_l60.all fun o => match o with | none => true | some I => jQi jqcl I) = true := by decide +kernel
theorem jq_k61 : (mj_l61.all fun o => match o with | none => true | some I => jQi jqcl I) = true := by decide +kernel
theorem jq_k62 : (mj_l62.all fun o => match o with | none => true | some I => jQi jqcl I) = true := by decide +kernel
theorem jq_k63 : (mj_l63.all fun o => match o with | none => true | some I => jQi jqcl I) = true := by decide +kernel
theorem jq_k64 : (mj_l64.all fun o => match o with | none => true | some I => jQi jqcl I) = true := by decide +kernel
theorem jq_k65 : (mj_l65.all fun o => match o with | none => true | some I => jQi jqcl I) = true := by decide +kernel
theorem jq_k66 : (mj_l66.all fun o => match o with | none => true | some I => jQi jqcl I) = true := by decide +kernel
theorem jq_k67 : (mj_l67.all fun o => match o with | none => true | some I => jQi jqcl I) = true := by decide +kernel
theorem jq_k68 : (mj_l68.all fun o => match o with | none => true | some I => jQi jqcl I) = true := by decide +kernel
theorem jq_k69 : (mj_l69.all fun o => match o with | none => true | some I => jQi jqcl I) = true := by decide +kernel
theorem jq_k70 : (mj_l70.all fun o => match o with | none => true | some I => jQi jqcl I) = true := by decide +kernel
theorem jq_k71 : (mj_l71.all fun o => match o with | none => true | some I => jQi jqcl I) = true := by decide +kernel
theorem jq_k72 : (mj_l72.all fun o => match o with | none => true | some I => jQi jqcl I) = true := by decide +kernel
theorem jq_k73 : (mj_l73.all fun o => match o with | none => true | some I => jQi jqcl I) = true := by decide +kernel
theorem jq_k74 : (mj_l74.all fun o => match o with | none => true | some I => jQi jqcl I) = true := by decide +kernel
theorem jq_k75 : (mj_l75.all fun o => match o with | none => true | some I => jQi jqcl I) = true := by decide +kernel
theorem jq_k76 : (mj_l76.all fun o => match o with | none => true | some I => jQi jqcl I) = true := by decide +kernel
theorem jq_k77 : (mj_l77.all fun o => match o with | none => true | some I => jQi jqcl I) = true := by decide +kernel
theorem jq_k78 : (mj_l78.all fun o => match o with | none => true | some I => jQi jqcl I) = true := by decide +kernel
theorem jq_k79 : (mj_l79.all fun o => match o with | none => true | some I => jQi jqcl I) = true := by decide +kernel
theorem jq_k85 : (mj_l85.all fun o => match o with | none => true | some I => jQi jqcl I) = true := by decide +kernel
theorem jq_k86 : (mj_l86.all fun o => match o with | none => true | some I => jQi jqcl I) = true := by decide +kernel
theorem jq_k87 : (mj_l87.all fun o => match o with | none => true | some I => jQi jqcl I) = true := by decide +kernel
theorem jq_k88 : (mj_l88.all fun o => match o with | none => true | some I => jQi jqcl I) = true := by decide +kernel
theorem jq_k89 : (mj_l89.all fun o => match o with | none => true | some I => jQi jqcl I) = true := by decide +kernel
theorem jq_k90 : (mj_l90.all fun o => match o with | none => true | some I => jQi jqcl I) = true := by decide +kernel
theorem jq_k91 : (mj_l91.all fun o => match o with | none => true | some I => jQi jqcl I) = true := by decide +kernel
theorem jq_k92 : (mj_l92.all fun o => match o with | none => true | some I => jQi jqcl I) = true := by decide +kernel
theorem jq_k93 : (mj_l93.all fun o => match o with | none => true | some I => jQi jqcl I) = true := by decide +kernel
theorem jq_k94 : (mj_l94.all fun o => match o with | none => true | some I => jQi jqcl I) = true := by decide +kernel
theorem jq_k95 : (mj_l95.all fun o => match o with | none => true | some I => jQi jqcl I) = true := by decide +kernel
theorem jq_k96 : (mj_l96.all fun o => match o with | none => true | some I => jQi jqcl I) = true := by decide +kernel
theorem jq_k97 : (mj_l97.all fun o => match o with | none => true | some I => jQi jqcl I) = true := by decide +kernel
theorem jq_k98 : (mj_l98.all fun o => match o with | none => true | some I => jQi jqcl I) = true := by decide +kernel
theorem jq_k99 : (mj_l99.all fun o => match o with | none => true | some I => jQi jqcl I) = true := by decide +kernel
theorem jq_k100 : (mj_l100.all fun o => match o with | none => true | some I => jQi jqcl I) = true := by decide +kernel
theorem jq_k102 : (mj_l102.all fun o => match o with | none => true | some I => jQi jqcl I) = true := by decide +kernel
theorem jq_k103 : (mj_l103.all fun o => match o with | none => true | some I => jQi jqcl I) = true := by decide +kernel
theorem jq_k104 : (mj_l104.all fun o => match o with | none => true | some I => jQi jqcl I) = true := by decide +kernel
theorem jq_k105 : (mj_l105.all fun o => match o with | none => true | some I => jQi jqcl I) = true := by decide +kernel
theorem jq_k106 : (mj_l106.all fun o => match o with | none => true | some I => jQi jqcl I) = true := by decide +kernel
theorem jq_k107 : (mj_l107.all fun o => match o with | none => true | some I => jQi jqcl I) = true := by decide +kernel
theorem jq_k108 : (mj_l108.all fun o => match o with | none => true | some I => jQi jqcl I) = true := by decide +kernel
theorem jq_k109 : (mj_l109.all fun o => match o with | none => true | some I => jQi jqcl I) = true := by decide +kernel
theorem jq_k110 : (mj_l110.all fun o => match o with | none => true | some I => jQi jqcl I) = true := by decide +kernel
theorem jq_k111 : (mj_l111.all fun o => match o with | none => true | some I => jQi jqcl I) = true := by decide +kernel
theorem jq_k112 : (mj_l112.all fun o => match o with | none => true | some I => jQi jqcl I) = true := by decide +kernel
theorem jq_k113 : (mj_l113.all fun o => match o with | none => true | some I => jQi jqcl I) = true := by decide +kernel
theorem jq_k115 : (mj_l115.all fun o => match o with | none => true | some I => jQi jqcl I) = true := by decide +kernel
theorem jq_k116 : (mj_l116.all fun o => match o with | none => true | some I => jQi jqcl I) = true := by decide +kernel
theorem jq_k117 : (mj_l117.all fun o => match o with | none => true | some I => jQi jqcl I) = true := by decide +kernel
theorem jq_k118 : (mj_l118.all fun o => match o with | none => true | some I => jQi jqcl I) = true := by decide +kernel
theorem jq_k119 : (mj_l119.all fun o => match o with | none => true | some I => jQi jqcl I) = true := by decide +kernel
theorem jq_k120 : (mj_l120.all fun o => match o with | none => true | some I => jQi jqcl I) = true := by decide +kernel
theorem jq_k121 : (mj_l121.all fun o => match o with | none => true | some I => jQi jqcl I) = true := by decide +kernel
theorem jq_k122 : (mj_l122.all fun o => match o with | none => true | some I => jQi jqcl I) = true := by decide +kernel
theorem jq_k123 : (mj_l123.all fun o => match o with | none => true | some I => jQi jqcl I) = true := by decide +kernel
theorem jq_k124 : (mj_l124.all fun o => match o with | none => true | some I => jQi jqcl I) = true := by decide +kernel
theorem jq_k125 : (mj_l125.all fun o => match o with | none => true | some I => jQi jqcl I) = true := by decide +kernel
theorem jq_k126 : (mj_l126.all fun o => match o with | none => true | some I => jQi jqcl I) = true := by decide +kernel
theorem jq_k127 : (mj_l127.all fun o => match o with | none => true | some I => jQi jqcl I) = true := by decide +kernel
theorem jq_k128 : (mj_l128.all fun o => match o with | none => true | some I => jQi jqcl I) = true := by decide +kernel
theorem jq_k129 : (mj_l129.all fun o => match o with | none => true | some I => jQi jqcl I) = true := by decide +kernel
theorem jq_k130 : (mj_l130.all fun o => match o with | none => true | some I => jQi jqcl I) = true := by decide +kernel
theorem jq_k131 : (mj_l131.all fun o => match o with | none => true | some I => jQi jqcl I) = true := by decide +kernel
theorem jq_k132 : (mj_l132.all fun o => match o with | none => true | some I => jQi jqcl I) = true := by decide +kernel
theorem jq_k133 : (mj_l133.all fun o => match o with | none => true | some I => jQi jqcl I) = true := by decide +kernel
theorem jq_k134 : (mj_l134.all fun o => match o with | none => true | some I => jQi jqcl I) = true := by decide +kernel
theorem jq_k135 : (mj_l135.all fun o => match o with | none => true | some I => jQi jqcl I) = true := by decide +kernel
theorem jq_k136 : (mj_l136.all fun o => match o with | none => true | some I => jQi jqcl I) = true := by decide +kernel
theorem jq_k137 : (mj_l137.all fun o => match o with | none => true | some I => jQi jqcl I) = true := by decide +kernel
theorem jq_k138 : (mj_l138.all fun o => match o with | none => true | some I => jQi jqcl I) = true := by decide +kernel
theorem jq_k139 : (mj_l139.all fun o => match o with | none => true | some I => jQi jqcl I) = true := by decide +kernel
theorem jq_k140 : (mj_l140.all fun o => match o with | none => true | some I => jQi jqcl I) = true := by decide +kernel
theorem jq_k142 : (mj_l142.all fun o => match o with | none => true | some I => jQi jqcl I) = true := by decide +kernel
theorem jq_k143 : (mj_l143.all fun o => match o with | none => true | some I => jQi jqcl I) = true := by decide +kernel
theorem jq_k145 : (mj_l145.all fun o => match o with | none => true | some I => jQi jqcl I) = true := by decide +kernel
theorem jq_k146 : (mj_l146.all fun o => match o with | none => true | some I => jQi jqcl I) = true := by decide +kernel
theorem jq_k147 : (mj_l147.all fun o => match o with | none => true | some I => jQi jqcl I) = true := by decide +kernel
theorem jq_k149 : (mj_l149.all fun o => match o with | none => true | some I => jQi jqcl I) = true := by decide +kernel
theorem jq_k150 : (mj_l150.all fun o => match o with | none => true | some I => jQi jqcl I) = true := by decide +kernel
theorem jq_k151 : (mj_l151.all fun o => match o with | none => true | some I => jQi jqcl I) = true := by decide +kernel
theorem jq_k152 : (mj_l152.all fun o => match o with | none => true | some I => jQi jqcl I) = true := by decide +kernel
theorem jq_k153 : (mj_l153.all fun o => match o with | none => true | some I => jQi jqcl I) = true := by decide +kernel
theorem jq_k154 : (mj_l154.all fun o => match o with | none => true | some I => jQi jqcl I) = true := by decide +kernel
theorem jq_k155 : (mj_l155.all fun o => match o with | none => true | some I => jQi jqcl I) = true := by decide +kernel
theorem jq_k156 : (mj_l156.all fun o => match o with | none => true | some I => jQi jqcl I) = true := by decide +kernel
theorem jq_k157 : (mj_l157.all fun o => match o with | none => true | some I => jQi jqcl I) = true := by decide +kernel
theorem jq_k158 : (mj_l158.all fun o => match o with | none => true | some I => jQi jqcl I) = true := by decide +kernel
theorem jq_k159 : (mj_l159.all fun o => match o with | none => true | some I => jQi jqcl I) = true := by decide +kernel
theorem jq_k160 : (mj_l160.all fun o => match o with | none => true | some I => jQi jqcl I) = true := by decide +kernel
theorem jq_k161 : (mj_l161.all fun o => match o with | none => true | some I => jQi jqcl I) = true := by decide +kernel
theorem jq_k162 : (mj_l162.all fun o => match o with | none => true | some I => jQi jqcl I) = true := by decide +kernel
theorem jq_k163 : (mj_l163.all fun o => match o with | none => true | some I => jQi jqcl I) = true := by decide +kernel
theorem jq_k164 : (mj_l164.all fun o => match o with | none => true | some I => jQi jqcl I) = true := by decide +kernel
theorem jq_k165 : (mj_l165.all fun o => match o with | none => true | some I => jQi jqcl I) = true := by decide +kernel
theorem jq_k166 : (mj_l166.all fun o => match o with | none => true | some I => jQi jqcl I) = true := by decide +kernel
theorem jq_k167 : (mj_l167.all fun o => match o with | none => true | some I => jQi jqcl I) = true := by decide +kernel
theorem jq_k168 : (mj_l168.all fun o => match o with | none => true | some I => jQi jqcl I) = true := by decide +kernel
theorem jq_k169 : (mj_l169.all fun o => match o with | none => true | some I => jQi jqcl I) = true := by decide +kernel
theorem jq_k170 : (mj_l170.all fun o => match o with | none => true | some I => jQi jqcl I) = true := by decide +kernel
theorem jq_k171 : (mj_l171.all fun o => match o with | none => true | some I => jQi jqcl I) = true := by decide +kernel
theorem jq_k172 : (mj_l172.all fun o => match o with | none => true | some I => jQi jqcl I) = true := by decide +kernel
theorem jq_k173 : (mj_l173.all fun o => match o with | none => true | some I => jQi jqcl I) = true := by decide +kernel
theorem jq_k174 : (mj_l174.all fun o => match o with | none => true | some I => jQi jqcl I) = true := by decide +kernel
theorem jq_k175 : (mj_l175.all fun o => match o with | none => true | some I => jQi jqcl I) = true := by decide +kernel
theorem jq_k176 : (mj_l176.all fun o => match o with | none => true | some I => jQi jqcl I) = true := by decide +kernel
theorem jq_k177 : (mj_l177.all fun o => match o with | none => true | some I => jQi jqcl I) = true := by decide +kernel
theorem jq_k178 : (mj_l178.all fun o => match o with | none => true | some I => jQi jqcl I) = true := by decide +kernel
theorem jq_k179 : (mj_l179.all fun o => match o with | none => true | some I => jQi jqcl I) = true := by decide +kernel
theorem jq_k180 : (mj_l180.all fun o => match o with | none => true | some I => jQi jqcl I) = true := by decide +kernel
theorem jq_k181 : (mj_l181.all fun o => match o with | none => true | some I => jQi jqcl I) = true := by decide +kernel
theorem jq_k182 : (mj_l182.all fun o => match o with | none => true | some I => jQi jqcl I) = true := by decide +kernel
theorem jq_k183 : (mj_l183.all fun o => match o with | none => true | some I => jQi jqcl I) = true := by decide +kernel
theorem jq_k184 : (mj_l184.all fun o => match o with | none => true | some I => jQi jqcl I) = true := by decide +kernel
theorem jq_k185 : (mj_l185.all fun o => match o with | none => true | some I => jQi jqcl I) = true := by decide +kernel
theorem jq_k186 : (mj_l186.all fun o => match o with | none => true | some I => jQi jqcl I) = true := by decide +kernel
theorem jq_k187 : (mj_l187.all fun o => match o with | none => true | some I => jQi jqcl I) = true := by decide +kernel
theorem jq_k188 : (mj_l188.all fun o => match o with | none => true | some I => jQi jqcl I) = true := by decide +kernel
theorem jq_k189 : (mj_l189.all fun o => match o with | none => true | some I => jQi jqcl I) = true := by decide +kernel
theorem jq_k190 : (mj_l190.all fun o => match o with | none => true | some I => jQi jqcl I) = true := by decide +kernel
theorem jq_k191 : (mj_l191.all fun o => match o with | none => true | some I => jQi jqcl I) = true := by decide +kernel
theorem jq_k192 : (mj_l192.all fun o => match o with | none => true | some I => jQi jqcl I) = true := by decide +kernel
theorem jq_k193 : (mj_l193.all fun o => match o with | none => true | some I => jQi jqcl I) = true := by decide +kernel
theorem jq_k194 : (mj_l194.all fun o => match o with | none => true | some I => jQi jqcl I) = true := by decide +kernel
theorem jq_k195 : (mj_l195.all fun o => match o with | none => true | some I => jQi jqcl I) = true := by decide +kernel
theorem jq_k196 : (mj_l196.all fun o => match o with | none => true | some I => jQi jqcl I) = true := by decide +kernel
theorem jq_k197 : (mj_l197.all fun o => match o with | none => true | some I => jQi jqcl I) = true := by decide +kernel
theorem jq_k198 : (mj_l198.all fun o => match o with | none => true | some I => jQi jqcl I) = true := by decide +kernel
theorem jq_k199 : (mj_l199.all fun o => match o with | none => true | some I => jQi jqcl I) = true := by decide +kernel
theorem jq_k200 : (mj_l200.all fun o => match o with | none => true | some I => jQi jqcl I) = true := by decide +kernel
theorem jq_k201 : (mj_l201.all fun o => match o with | none => true | some I => jQi jqcl I) = true := by decide +kernel
theorem jq_k202 : (mj_l202.all fun o => match o with | none => true | some I => jQi jqcl I) = true := by decide +kernel
theorem jq_k203 : (mj_l203.all fun o => match o with | none => true | some I => jQi jqcl I) = true := by decide +kernel
theorem jq_k204 : (mj_l204.all fun o => match o with | none => true | some I => jQi jqcl I) = true := by decide +kernel
theorem jq_k205 : (mj_l205.all fun o => match o with | none => true | some I => jQi jqcl I) = true := by decide +kernel
theorem jq_k206 : (mj_l206.all fun o => match o with | none => true | some I => jQi jqcl I) = true := by decide +kernel
theorem jq_k207 : (mj_l207.all fun o => match o with | none => true | some I => jQi jqcl I) = true := by decide +kernel
theorem jq_k208 : (mj_l208.all fun o => match o with | none => true | some I => jQi jqcl I) = true := by decide +kernel
theorem jq_k209 : (mj_l209.all fun o => match o with | none => true | some I => jQi jqcl I) = true := by decide +kernel
theorem jq_k210 : (mj_l210.all fun o => match o with | none => true | some I => jQi jqcl I) = true := by decide +kernel
theorem jq_k211 : (mj_l211.all fun o => match o with | none => true | some I => jQi jqcl I) = true := by decide +kernel
theorem jq_k212 : (mj_l212.all fun o => match o with | none => true | some I => jQi jqcl I) = true := by decide +kernel
theorem jq_k213 : (mj_l213.all fun o => match o with | none => true | some I => jQi jqcl I) = true := by decide +kernel
theorem jq_k214 : (mj_l214.all fun o => match o with | none => true | some I => jQi jqcl I) = true := by decide +kernel
theorem jq_k215 : (mj_l215.all fun o => match o with | none => true | some I => jQi jqcl I) = true := by decide +kernel
theorem jq_k216 : (mj_l216.all fun o => match o with | none => true | some I => jQi jqcl I) = true := by decide +kernel
theorem jq_k217 : (mj_l217.all fun o => match o with | none => true | some I => jQi jqcl I) = true := by decide +kernel
theorem jq_k218 : (mj_l218.all fun o => match o with | none => true | some I => jQi jqcl I) = true := by decide +kernel
theorem jq_k219 : (mj_l219.all fun o => match o with | none => true | some I => jQi jqcl I) = true := by decide +kernel
theorem jq_k220 : (mj_l220.all fun o => match o with | none => true | some I => jQi jqcl I) = true := by decide +kernel
theorem jq_k221 : (mj_l221.all fun o => match o with | none => true | some I => jQi jqcl I) = true := by decide +kernel
theorem jq_k222 : (mj_l222.all fun o => match o with | none => true | some I => jQi jqcl I) = true := by decide +kernel
theorem jq_k223 : (mj_l223.all fun o => match o with | none => true | some I => jQi jqcl I) = true := by decide +kernel
theorem jq_k224 : (mj_l224.all fun o => match o with | none => true | some I => jQi jqcl I) = true := by decide +kernel
theorem jq_k225 : (mj_l225.all fun o => match o with | none => true | some I => jQi jqcl I) = true := by decide +kernel
theorem jq_k226 : (mj_l226.all fun o => match o with | none => true | some I => jQi jqcl I) = true := by decide +kernel
theorem jq_k227 : (mj_l227.all fun o => match o with | none => true | some I => jQi jqcl I) = true := by decide +kernel
theorem jq_k228 : (mj_l228.all fun o => match o with | none => true | some I => jQi jqcl I) = true := by decide +kernel
theorem jq_k229 : (mj_l229.all fun o => match o with | none => true | some I => jQi jqcl I) = true := by decide +kernel
theorem jq_k230 : (mj_l230.all fun o => match o with | none => true | some I => jQi jqcl I) = true := by decide +kernel
theorem jq_k231 : (mj_l231.all fun o => match o with | none => true | some I => jQi jqcl I) = true := by decide +kernel
theorem jq_k232 : (mj_l232.all fun o => match o with | none => true | some I => jQi jqcl I) = true := by decide +kernel
theorem jq_k233 : (mj_l233.all fun o => match o with | none => true | some I => jQi jqcl I) = true := by decide +kernel
theorem jq_k234 : (mj_l234.all fun o => match o with | none => true | some I => jQi jqcl I) = true := by decide +kernel
theorem jq_k235 : (mj_l235.all fun o => match o with | none => true | some I => jQi jqcl I) = true := by decide +kernel
theorem jq_k236 : (mj_l236.all fun o => match o with | none => true | some I => jQi jqcl I) = true := by decide +kernel
theorem jq_k237 : (mj_l237.all fun o => match o with | none => true | some I => jQi jqcl I) = true := by decide +kernel
theorem jq_k238 : (mj_l238.all fun o => match o with | none => true | some I => jQi jqcl I) = true := by decide +kernel
theorem jq_k239 : (mj_l239.all fun o => match o with | none => true | some I => jQi jqcl I) = true := by decide +kernel
theorem jq_k240 : (mj_l240.all fun o => match o with | none => true | some I => jQi jqcl I) = true := by decide +kernel
theorem jq_k241 : (mj_l241.all fun o => match o with | none => true | some I => jQi jqcl I) = true := by decide +kernel
theorem jq_k242 : (mj_l242.all fun o => match o with | none => true | some I => jQi jqcl I) = true := by decide +kernel
theorem jq_k243 : (mj_l243.all fun o => match o with | none => true | some I => jQi jqcl I) = true := by decide +kernel
theorem jq_k244 : (mj_l244.all fun o => match o with | none => true | some I => jQi jqcl I) = true := by decide +kernel
theorem jq_k245 : (mj_l245.all fun o => match o with | none => true | some I => jQi jqcl I) = true := by decide +kernel
theorem jq_k246 : (mj_l246.all fun o => match o with | none => true | some I => jQi jqcl I) = true := by decide +kernel
theorem jq_k247 : (mj_l247.all fun o => match o with | none => true | some I => jQi jqcl I) = true := by decide +kernel
theorem jq_k248 : (mj_l248.all fun o => match o with | none => true | some I => jQi jqcl I) = true := by decide +kernel
theorem jq_k249 : (mj_l249.all fun o => match o with | none => true | some I => jQi jqcl I) = true := by decide +kernel
theorem jq_k250 : (mj_l250.all fun o => match o with | none => true | some I => jQi jqcl I) = true := by decide +kernel
theorem jq_k251 : (mj_l251.all fun o => match o with | none => true | some I => jQi jqcl I) = true := by decide +kernel
theorem jq_k252 : (mj_l252.all fun o => match o with | none => true | some I => jQi jqcl I) = true := by decide +kernel
theorem jq_k253 : (mj_l253.all fun o => match o with | none => true | some I => jQi jqcl I) = true := by decide +kernel
theorem jq_k254 : (mj_l254.all fun o => match o with | none => true | some I => jQi jqcl I) = true := by decide +kernel
theorem jq_k255 : (mj_l255.all fun o => match o with | none => true | some I => jQi jqcl I) = true := by decide +kernel
theorem jq_k256 : (mj_l256.all fun o => match o with | none => true | some I => jQi jqcl I) = true := by decide +kernel
theorem jq_k257 : (mj_l257.all fun o => match o with | none => true | some I => jQi jqcl I) = true := by decide +kernel
theorem jq_k258 : (mj_l258.all fun o => match o with | none => true | some I => jQi jqcl I) = true := by decide +kernel
theorem jq_k259 : (mj_l259.all fun o => match o with | none => true | some I => jQi jqcl I) = true := by decide +kernel
theorem jq_k260 : (mj_l260.all fun o => match o with | none => true | some I => jQi jqcl I) = true := by decide +kernel
theorem jq_k261 : (mj_l261.all fun o => match o with | none => true | some I => jQi jqcl I) = true := by decide +kernel
theorem jq_k262 : (mj_l262.all fun o => match o with | none => true | some I => jQi jqcl I) = true := by decide +kernel
theorem jq_k263 : (mj_l263.all fun o => match o with | none => true | some I => jQi jqcl I) = true := by decide +kernel
theorem jq_k264 : (mj_l264.all fun o => match o with | none => true | some I => jQi jqcl I) = true := by decide +kernel
theorem jq_k265 : (mj_l265.all fun o => match o with | none => true | some I => jQi jqcl I) = true := by decide +kernel
theorem jq_k266 : (mj_l266.all fun o => match o with | none => true | some I => jQi jqcl I) = true := by decide +kernel
theorem jq_k267 : (mj_l267.all fun o => match o with | none => true | some I => jQi jqcl I) = true := by decide +kernel
theorem jq_k268 : (mj_l268.all fun o => match o with | none => true | some I => jQi jqcl I) = true := by decide +kernel
theorem jq_k269 : (mj_l269.all fun o => match o with | none => true | some I => jQi jqcl I) = true := by decide +kernel
theorem jq_k270 : (mj_l270.all fun o => match o with | none => true | some I => jQi jqcl I) = true := by decide +kernel
theorem jq_k271 : (mj_l271.all fun o => match o with | none => true | some I => jQi jqcl I) = true := by decide +kernel
theorem jq_k272 : (mj_l272.all fun o => match o with | none => true | some I => jQi jqcl I) = true := by decide +kernel
theorem jq_k273 : (mj_l273.all fun o => match o with | none => true | some I => jQi jqcl I) = true := by decide +kernel
theorem jq_k274 : (mj_l274.all fun o => match o with | none => true | some I => jQi jqcl I) = true := by decide +kernel
theorem jq_k275 : (mj_l275.all fun o => match o with | none => true | some I => jQi jqcl I) = true := by decide +kernel
theorem jq_k276 : (mj_l276.all fun o => match o with | none => true | some I => jQi jqcl I) = true := by decide +kernel
theorem jq_k277 : (mj_l277.all fun o => match o with | none => true | some I => jQi jqcl I) = true := by decide +kernel
theorem jq_k278 : (mj_l278.all fun o => match o with | none => true | some I => jQi jqcl I) = true := by decide +kernel
theorem jq_k279 : (mj_l279.all fun o => match o with | none => true | some I => jQi jqcl I) = true := by decide +kernel
theorem jq_k280 : (mj_l280.all fun o => match o with | none => true | some I => jQi jqcl I) = true := by decide +kernel
theorem jq_k281 : (mj_l281.all fun o => match o with | none => true | some I => jQi jqcl I) = true := by decide +kernel
theorem jq_k282 : (mj_l282.all fun o => match o with | none => true | some I => jQi jqcl I) = true := by decide +kernel
theorem jq_k283 : (mj_l283.all fun o => match o with | none => true | some I => jQi jqcl I) = true := by decide +kernel
theorem jq_k284 : (mj_l284.all fun o => match o with | none => true | some I => jQi jqcl I) = true := by decide +kernel
theorem jq_k285 : (mj_l285.all fun o => match o with | none => true | some I => jQi jqcl I) = true := by decide +kernel
theorem jq_k286 : (mj_l286.all fun o => match o with | none => true | some I => jQi jqcl I) = true := by decide +kernel
theorem jq_k287 : (mj_l287.all fun o => match o with | none => true | some I => jQi jqcl I) = true := by decide +kernel
theorem jq_k288 : (mj_l288.all fun o => match o with | none => true | some I => jQi jqcl I) = true := by decide +kernel
theorem jq_k289 : (mj_l289.all fun o => match o with | none => true | some I => jQi jqcl I) = true := by decide +kernel
theorem jq_k290 : (mj_l290.all fun o => match o with | none => true | some I => jQi jqcl I) = true := by decide +kernel
theorem jq_k291 : (mj_l291.all fun o => match o with | none => true | some I => jQi jqcl I) = true := by decide +kernel
theorem jq_k292 : (mj_l292.all fun o => match o with | none => true | some I => jQi jqcl I) = true := by decide +kernel
theorem jq_k293 : (mj_l293.all fun o => match o with | none => true | some I => jQi jqcl I) = true := by decide +kernel
theorem jq_k294 : (mj_l294.all fun o => match o with | none => true | some I => jQi jqcl I) = true := by decide +kernel
theorem jq_k295 : (mj_l295.all fun o => match o with | none => true | some I => jQi jqcl I) = true := by decide +kernel
theorem jq_k296 : (mj_l296.all fun o => match o with | none => true | some I => jQi jqcl I) = true := by decide +kernel
theorem jq_k297 : (mj_l297.all fun o => match o with | none => true | some I => jQi jqcl I) = true := by decide +kernel
theorem jq_k298 : (mj_l298.all fun o => match o with | none => true | some I => jQi jqcl I) = true := by decide +kernel
theorem jq_k299 : (mj_l299.all fun o => match o with | none => true | some I => jQi jqcl I) = true := by decide +kernel
theorem jq_k300 : (mj_l300.all fun o => match o with | none => true | some I => jQi jqcl I) = true := by decide +kernel
theorem jq_k301 : (mj_l301.all fun o => match o with | none => true | some I => jQi jqcl I) = true := by decide +kernel
theorem jq_k302 : (mj_l302.all fun o => match o with | none => true | some I => jQi jqcl I) = true := by decide +kernel
theorem jq_k303 : (mj_l303.all fun o => match o with | none => true | some I => jQi jqcl I) = true := by decide +kernel
theorem jq_k304 : (mj_l304.all fun o => match o with | none => true | some I => jQi jqcl I) = true := by decide +kernel
theorem jq_k305 : (mj_l305.all fun o => match o with | none => true | some I => jQi jqcl I) = true := by decide +kernel
theorem jq_k306 : (mj_l306.all fun o => match o with | none => true | some I => jQi jqcl I) = true := by decide +kernel
theorem jq_k307 : (mj_l307.all fun o => match o with | none => true | some I => jQi jqcl I) = true := by decide +kernel
theorem jq_k308 : (mj_l308.all fun o => match o with | none => true | some I => jQi jqcl I) = true := by decide +kernel
theorem jq_k309 : (mj_l309.all fun o => match o with | none => true | some I => jQi jqcl I) = true := by decide +kernel
theorem jq_k310 : (mj_l310.all fun o => match o with | none => true | some I => jQi jqcl I) = true := by decide +kernel
theorem jq_k311 : (mj_l311.all fun o => match o with | none => true | some I => jQi jqcl I) = true := by decide +kernel
theorem jq_k312 : (mj_l312.all fun o => match o with | none => true | some I => jQi jqcl I) = true := by decide +kernel
theorem jq_k313 : (mj_l313.all fun o => match o with | none => true | some I => jQi jqcl I) = true := by decide +kernel
theorem jq_k314 : (mj_l314.all fun o => match o with | none => true | some I => jQi jqcl I) = true := by decide +kernel
theorem jq_k315 : (mj_l315.all fun o => match o with | none => true | some I => jQi jqcl I) = true := by decide +kernel
theorem jq_k316 : (mj_l316.all fun o => match o with | none => true | some I => jQi jqcl I) = true := by decide +kernel
theorem jq_k317 : (mj_l317.all fun o => match o with | none => true | some I => jQi jqcl I) = true := by decide +kernel
theorem jq_k318 : (mj_l318.all fun o => match o with | none => true | some I => jQi jqcl I) = true := by decide +kernel
theorem jq_k319 : (mj_l319.all fun o => match o with | none => true | some I => jQi jqcl I) = true := by decide +kernel
theorem jq_k320 : (mj_l320.all fun o => match o with | none => true | some I => jQi jqcl I) = true := by decide +kernel
theorem jq_k321 : (mj_l321.all fun o => match o with | none => true | some I => jQi jqcl I) = true := by decide +kernel
theorem jq_k323 : (mj_l323.all fun o => match o with | none => true | some I => jQi jqcl I) = true := by decide +kernel
theorem jq_k324 : (mj_l324.all fun o => match o with | none => true | some I => jQi jqcl I) = true := by decide +kernel
theorem jq_k325 : (mj_l325.all fun o => match o with | none => true | some I => jQi jqcl I) = true := by decide +kernel
theorem jq_k326 : (mj_l326.all fun o => match o with | none => true | some I => jQi jqcl I) = true := by decide +kernel
theorem jq_k327 : (mj_l327.all fun o => match o with | none => true | some I => jQi jqcl I) = true := by decide +kernel
theorem jq_k328 : (mj_l328.all fun o => match o with | none => true | some I => jQi jqcl I) = true := by decide +kernel
theorem jq_k329 : (mj_l329.all fun o => match o with | none => true | some I => jQi jqcl I) = true := by decide +kernel
theorem jq_k330 : (mj_l330.all fun o => match o with | none => true | some I => jQi jqcl I) = true := by decide +kernel
theorem jq_k331 : (mj_l331.all fun o => match o with | none => true | some I => jQi jqcl I) = true := by decide +kernel
theorem jq_k332 : (mj_l332.all fun o => match o with | none => true | some I => jQi jqcl I) = true := by decide +kernel
theorem jq_k333 : (mj_l333.all fun o => match o with | none => true | some I => jQi jqcl I) = true := by decide +kernel
theorem jq_k334 : (mj_l334.all fun o => match o with | none => true | some I => jQi jqcl I) = true := by decide +kernel
theorem jq_k335 : (mj_l335.all fun o => match o with | none => true | some I => jQi jqcl I) = true := by decide +kernel
theorem jq_k336 : (mj_l336.all fun o => match o with | none => true | some I => jQi jqcl I) = true := by decide +kernel
theorem jq_k337 : (mj_l337.all fun o => match o with | none => true | some I => jQi jqcl I) = true := by decide +kernel
theorem jq_k338 : (mj_l338.all fun o => match o with | none => true | some I => jQi jqcl I) = true := by decide +kernel
theorem jq_k339 : (mj_l339.all fun o => match o with | none => true | some I => jQi jqcl I) = true := by decide +kernel
theorem jq_k340 : (mj_l340.all fun o => match o with | none => true | some I => jQi jqcl I) = true := by decide +kernel
theorem jq_k341 : (mj_l341.all fun o => match o with | none => true | some I => jQi jqcl I) = true := by decide +kernel
theorem jq_k342 : (mj_l342.all fun o => match o with | none => true | some I => jQi jqcl I) = true := by decide +kernel
theorem jq_k343 : (mj_l343.all fun o => match o with | none => true | some I => jQi jqcl I) = true := by decide +kernel
theorem jq_k346 : (mj_l346.all fun o => match o with | none => true | some I => jQi jqcl I) = true := by decide +kernel
theorem jq_K_0 : ∀ (j : Nat) (M : mj_M), mj_P_0[j]? = some M → jqcl (0 + j) = true → jqM M := by
  intro j M h hc
  match j, h, hc with
  | 0, h, hc => cases h; exact jq_look jq_k0
  | 1, h, hc => cases h; exact jq_look jq_k1
  | 2, h, hc => cases h; exact jq_look jq_k2
  | 3, h, hc => cases h; exact jq_look jq_k3
  | 4, h, hc => cases h; exact jq_look jq_k4
  | 5, h, hc => cases h; exact jq_look jq_k5
  | 6, h, hc => cases h; exact jq_look jq_k6
  | 7, h, hc => cases h; exact jq_look jq_k7
  | 8, h, hc => cases h; exact jq_look jq_k8
  | 9, h, hc => cases h; exact jq_look jq_k9
  | 10, h, hc => cases h; exact jq_look jq_k10
  | 11, h, hc => cases h; exact jq_look jq_k11
  | 12, h, hc => cases h; exact jq_look jq_k12
  | 13, h, hc => cases h; exact jq_look jq_k13
  | 14, h, hc => cases h; exact jq_look jq_k14
  | 15, h, hc => cases h; exact jq_look jq_k15
  | 16, h, hc => cases h; exact jq_look jq_k16
  | 17, h, hc => cases h; exact jq_look jq_k17
  | 18, h, hc => cases h; exact jq_look jq_k18
  | 19, h, hc => cases h; exact jq_look jq_k19
  | 20, h, hc => cases h; exact jq_look jq_k20
  | 21, h, hc => cases h; exact jq_look jq_k21
  | 22, h, hc => cases h; exact jq_look jq_k22
  | 23, h, hc => cases h; exact jq_look jq_k23
  | 24, h, hc => cases h; exact jq_look jq_k24
  | 25, h, hc => cases h; exact jq_look jq_k25
  | 26, h, hc => cases h; exact jq_look jq_k26
  | 27, h, hc => cases h; exact jq_look jq_k27
  | 28, h, hc => cases h; exact jq_look jq_k28
  | 29, h, hc => cases h; exact jq_look jq_k29
  | 30, h, hc => cases h; exact jq_look jq_k30
  | 31, h, hc => cases h; exact jq_look jq_k31
  | 32, h, hc => cases h; exact jq_look jq_k32
  | 33, h, hc => cases h; exact jq_look jq_k33
  | 34, h, hc => cases h; exact jq_look jq_k34
  | 35, h, hc => cases h; exact jq_look jq_k35
  | 36, h, hc => cases h; exact jq_look jq_k36
  | 37, h, hc => cases h; exact jq_look jq_k37
  | 38, h, hc => cases h; exact jq_look jq_k38
  | 39, h, hc => cases h; exact jq_look jq_k39
  | 40, h, hc => cases h; exact jq_look jq_k40
  | 41, h, hc => cases h; exact jq_look jq_k41
  | 42, h, hc => cases h; exact jq_look jq_k42
  | 43, h, hc => cases h; exact jq_look jq_k43
  | 44, h, hc => cases h; exact jq_look jq_k44
  | 45, h, hc => cases h; exact jq_look jq_k45
  | 46, h, hc => cases h; exact jq_look jq_k46
  | 47, h, hc => cases h; exact jq_look jq_k47
  | 48, h, hc => cases h; exact jq_look jq_k48
  | 49, h, hc => cases h; exact jq_look jq_k49
  | j + 50, h, hc => simp [mj_P_0] at h
theorem jq_K_1 : ∀ (j : Nat) (M : mj_M), mj_P_1[j]? = some M → jqcl (50 + j) = true → jqM M := by
  intro j M h hc
  match j, h, hc with
  | 0, h, hc => cases h; exact jq_look jq_k50
  | 1, h, hc => cases h; exact jq_look jq_k51
  | 2, h, hc => cases h; exact jq_look jq_k52
  | 3, h, hc => cases h; exact jq_look jq_k53
  | 4, h, hc => cases h; exact jq_look jq_k54
  | 5, h, hc => cases h; exact jq_look jq_k55
  | 6, h, hc => cases h; exact jq_look jq_k56
  | 7, h, hc => cases h; exact jq_look jq_k57
  | 8, h, hc => cases h; exact jq_look jq_k58
  | 9, h, hc => cases h; exact jq_look jq_k59
  | 10, h, hc => cases h; exact jq_look jq_k60
  | 11, h, hc => cases h; exact jq_look jq_k61
  | 12, h, hc => cases h; exact jq_look jq_k62
  | 13, h, hc => cases h; exact jq_look jq_k63
  | 14, h, hc => cases h; exact jq_look jq_k64
  | 15, h, hc => cases h; exact jq_look jq_k65
  | 16, h, hc => cases h; exact jq_look jq_k66
  | 17, h, hc => cases h; exact jq_look jq_k67
  | 18, h, hc => cases h; exact jq_look jq_k68
  | 19, h, hc => cases h; exact jq_look jq_k69
  | 20, h, hc => cases h; exact jq_look jq_k70
  | 21, h, hc => cases h; exact jq_look jq_k71
  | 22, h, hc => cases h; exact jq_look jq_k72
  | 23, h, hc => cases h; exact jq_look jq_k73
  | 24, h, hc => cases h; exact jq_look jq_k74
  | 25, h, hc => cases h; exact jq_look jq_k75
  | 26, h, hc => cases h; exact jq_look jq_k76
  | 27, h, hc => cases h; exact jq_look jq_k77
  | 28, h, hc => cases h; exact jq_look jq_k78
  | 29, h, hc => cases h; exact jq_look jq_k79
  | 30, h, hc => exact absurd hc (by decide)
  | 31, h, hc => exact absurd hc (by decide)
  | 32, h, hc => exact absurd hc (by decide)
  | 33, h, hc => exact absurd hc (by decide)
  | 34, h, hc => exact absurd hc (by decide)
  | 35, h, hc => cases h; exact jq_look jq_k85
  | 36, h, hc => cases h; exact jq_look jq_k86
  | 37, h, hc => cases h; exact jq_look jq_k87
  | 38, h, hc => cases h; exact jq_look jq_k88
  | 39, h, hc => cases h; exact jq_look jq_k89
  | 40, h, hc => cases h; exact jq_look jq_k90
  | 41, h, hc => cases h; exact jq_look jq_k91
  | 42, h, hc => cases h; exact jq_look jq_k92
  | 43, h, hc => cases h; exact jq_look jq_k93
  | 44, h, hc => cases h; exact jq_look jq_k94
  | 45, h, hc => cases h; exact jq_look jq_k95
  | 46, h, hc => cases h; exact jq_look jq_k96
  | 47, h, hc => cases h; exact jq_look jq_k97
  | 48, h, hc => cases h; exact jq_look jq_k98
  | 49, h, hc => cases h; exact jq_look jq_k99
  | j + 50, h, hc => simp [mj_P_1] at h
theorem jq_K_2 : ∀ (j : Nat) (M : mj_M), mj_P_2[j]? = some M → jqcl (100 + j) = true → jqM M := by
  intro j M h hc
  match j, h, hc with
  | 0, h, hc => cases h; exact jq_look jq_k100
  | 1, h, hc => exact absurd hc (by decide)
  | 2, h, hc => cases h; exact jq_look jq_k102
  | 3, h, hc => cases h; exact jq_look jq_k103
  | 4, h, hc => cases h; exact jq_look jq_k104
  | 5, h, hc => cases h; exact jq_look jq_k105
  | 6, h, hc => cases h; exact jq_look jq_k106
  | 7, h, hc => cases h; exact jq_look jq_k107
  | 8, h, hc => cases h; exact jq_look jq_k108
  | 9, h, hc => cases h; exact jq_look jq_k109
  | 10, h, hc => cases h; exact jq_look jq_k110
  | 11, h, hc => cases h; exact jq_look jq_k111
  | 12, h, hc => cases h; exact jq_look jq_k112
  | 13, h, hc => cases h; exact jq_look jq_k113
  | 14, h, hc => exact absurd hc (by decide)
  | 15, h, hc => cases h; exact jq_look jq_k115
  | 16, h, hc => cases h; exact jq_look jq_k116
  | 17, h, hc => cases h; exact jq_look jq_k117
  | 18, h, hc => cases h; exact jq_look jq_k118
  | 19, h, hc => cases h; exact jq_look jq_k119
  | 20, h, hc => cases h; exact jq_look jq_k120
  | 21, h, hc => cases h; exact jq_look jq_k121
  | 22, h, hc => cases h; exact jq_look jq_k122
  | 23, h, hc => cases h; exact jq_look jq_k123
  | 24, h, hc => cases h; exact jq_look jq_k124
  | 25, h, hc => cases h; exact jq_look jq_k125
  | 26, h, hc => cases h; exact jq_look jq_k126
  | 27, h, hc => cases h; exact jq_look jq_k127
  | 28, h, hc => cases h; exact jq_look jq_k128
  | 29, h, hc => cases h; exact jq_look jq_k129
  | 30, h, hc => cases h; exact jq_look jq_k130
  | 31, h, hc => cases h; exact jq_look jq_k131
  | 32, h, hc => cases h; exact jq_look jq_k132
  | 33, h, hc => cases h; exact jq_look jq_k133
  | 34, h, hc => cases h; exact jq_look jq_k134
  | 35, h, hc => cases h; exact jq_look jq_k135
  | 36, h, hc => cases h; exact jq_look jq_k136
  | 37, h, hc => cases h; exact jq_look jq_k137
  | 38, h, hc => cases h; exact jq_look jq_k138
  | 39, h, hc => cases h; exact jq_look jq_k139
  | 40, h, hc => cases h; exact jq_look jq_k140
  | 41, h, hc => exact absurd hc (by decide)
  | 42, h, hc => cases h; exact jq_look jq_k142
  | 43, h, hc => cases h; exact jq_look jq_k143
  | 44, h, hc => exact absurd hc (by decide)
  | 45, h, hc => cases h; exact jq_look jq_k145
  | 46, h, hc => cases h; exact jq_look jq_k146
  | 47, h, hc => cases h; exact jq_look jq_k147
  | 48, h, hc => exact absurd hc (by decide)
  | 49, h, hc => cases h; exact jq_look jq_k149
  | j + 50, h, hc => simp [mj_P_2] at h
theorem jq_K_3 : ∀ (j : Nat) (M : mj_M), mj_P_3[j]? = some M → jqcl (150 + j) = true → jqM M := by
  intro j M h hc
  match j, h, hc with
  | 0, h, hc => cases h; exact jq_look jq_k150
  | 1, h, hc => cases h; exact jq_look jq_k151
  | 2, h, hc => cases h; exact jq_look jq_k152
  | 3, h, hc => cases h; exact jq_look jq_k153
  | 4, h, hc => cases h; exact jq_look jq_k154
  | 5, h, hc => cases h; exact jq_look jq_k155
  | 6, h, hc => cases h; exact jq_look jq_k156
  | 7, h, hc => cases h; exact jq_look jq_k157
  | 8, h, hc => cases h; exact jq_look jq_k158
  | 9, h, hc => cases h; exact jq_look jq_k159
  | 10, h, hc => cases h; exact jq_look jq_k160
  | 11, h, hc => cases h; exact jq_look jq_k161
  | 12, h, hc => cases h; exact jq_look jq_k162
  | 13, h, hc => cases h; exact jq_look jq_k163
  | 14, h, hc => cases h; exact jq_look jq_k164
  | 15, h, hc => cases h; exact jq_look jq_k165
  | 16, h, hc => cases h; exact jq_look jq_k166
  | 17, h, hc => cases h; exact jq_look jq_k167
  | 18, h, hc => cases h; exact jq_look jq_k168
  | 19, h, hc => cases h; exact jq_look jq_k169
  | 20, h, hc => cases h; exact jq_look jq_k170
  | 21, h, hc => cases h; exact jq_look jq_k171
  | 22, h, hc => cases h; exact jq_look jq_k172
  | 23, h, hc => cases h; exact jq_look jq_k173
  | 24, h, hc => cases h; exact jq_look jq_k174
  | 25, h, hc => cases h; exact jq_look jq_k175
  | 26, h, hc => cases h; exact jq_look jq_k176
  | 27, h, hc => cases h; exact jq_look jq_k177
  | 28, h, hc => cases h; exact jq_look jq_k178
  | 29, h, hc => cases h; exact jq_look jq_k179
  | 30, h, hc => cases h; exact jq_look jq_k180
  | 31, h, hc => cases h; exact jq_look jq_k181
  | 32, h, hc => cases h; exact jq_look jq_k182
  | 33, h, hc => cases h; exact jq_look jq_k183
  | 34, h, hc => cases h; exact jq_look jq_k184
  | 35, h, hc => cases h; exact jq_look jq_k185
  | 36, h, hc => cases h; exact jq_look jq_k186
  | 37, h, hc => cases h; exact jq_look jq_k187
  | 38, h, hc => cases h; exact jq_look jq_k188
  | 39, h, hc => cases h; exact jq_look jq_k189
  | 40, h, hc => cases h; exact jq_look jq_k190
  | 41, h, hc => cases h; exact jq_look jq_k191
  | 42, h, hc => cases h; exact jq_look jq_k192
  | 43, h, hc => cases h; exact jq_look jq_k193
  | 44, h, hc => cases h; exact jq_look jq_k194
  | 45, h, hc => cases h; exact jq_look jq_k195
  | 46, h, hc => cases h; exact jq_look jq_k196
  | 47, h, hc => cases h; exact jq_look jq_k197
  | 48, h, hc => cases h; exact jq_look jq_k198
  | 49, h, hc => cases h; exact jq_look jq_k199
  | j + 50, h, hc => simp [mj_P_3] at h
theorem jq_K_4 : ∀ (j : Nat) (M : mj_M), mj_P_4[j]? = some M → jqcl (200 + j) = true → jqM M := by
  intro j M h hc
  match j, h, hc with
  | 0, h, hc => cases h; exact jq_look jq_k200
  | 1, h, hc => cases h; exact jq_look jq_k201
  | 2, h, hc => cases h; exact jq_look jq_k202
  | 3, h, hc => cases h; exact jq_look jq_k203
  | 4, h, hc => cases h; exact jq_look jq_k204
  | 5, h, hc => cases h; exact jq_look jq_k205
  | 6, h, hc => cases h; exact jq_look jq_k206
  | 7, h, hc => cases h; exact jq_look jq_k207
  | 8, h, hc => cases h; exact jq_look jq_k208
  | 9, h, hc => cases h; exact jq_look jq_k209
  | 10, h, hc => cases h; exact jq_look jq_k210
  | 11, h, hc => cases h; exact jq_look jq_k211
  | 12, h, hc => cases h; exact jq_look jq_k212
  | 13, h, hc => cases h; exact jq_look jq_k213
  | 14, h, hc => cases h; exact jq_look jq_k214
  | 15, h, hc => cases h; exact jq_look jq_k215
  | 16, h, hc => cases h; exact jq_look jq_k216
  | 17, h, hc => cases h; exact jq_look jq_k217
  | 18, h, hc => cases h; exact jq_look jq_k218
  | 19, h, hc => cases h; exact jq_look jq_k219
  | 20, h, hc => cases h; exact jq_look jq_k220
  | 21, h, hc => cases h; exact jq_look jq_k221
  | 22, h, hc => cases h; exact jq_look jq_k222
  | 23, h, hc => cases h; exact jq_look jq_k223
  | 24, h, hc => cases h; exact jq_look jq_k224
  | 25, h, hc => cases h; exact jq_look jq_k225
  | 26, h, hc => cases h; exact jq_look jq_k226
  | 27, h, hc => cases h; exact jq_look jq_k227
  | 28, h, hc => cases h; exact jq_look jq_k228
  | 29, h, hc => cases h; exact jq_look jq_k229
  | 30, h, hc => cases h; exact jq_look jq_k230
  | 31, h, hc => cases h; exact jq_look jq_k231
  | 32, h, hc => cases h; exact jq_look jq_k232
  | 33, h, hc => cases h; exact jq_look jq_k233
  | 34, h, hc => cases h; exact jq_look jq_k234
  | 35, h, hc => cases h; exact jq_look jq_k235
  | 36, h, hc => cases h; exact jq_look jq_k236
  | 37, h, hc => cases h; exact jq_look jq_k237
  | 38, h, hc => cases h; exact jq_look jq_k238
  | 39, h, hc => cases h; exact jq_look jq_k239
  | 40, h, hc => cases h; exact jq_look jq_k240
  | 41, h, hc => cases h; exact jq_look jq_k241
  | 42, h, hc => cases h; exact jq_look jq_k242
  | 43, h, hc => cases h; exact jq_look jq_k243
  | 44, h, hc => cases h; exact jq_look jq_k244
  | 45, h, hc => cases h; exact jq_look jq_k245
  | 46, h, hc => cases h; exact jq_look jq_k246
  | 47, h, hc => cases h; exact jq_look jq_k247
  | 48, h, hc => cases h; exact jq_look jq_k248
  | 49, h, hc => cases h; exact jq_look jq_k249
  | j + 50, h, hc => simp [mj_P_4] at h
theorem jq_K_5 : ∀ (j : Nat) (M : mj_M), mj_P_5[j]? = some M → jqcl (250 + j) = true → jqM M := by
  intro j M h hc
  match j, h, hc with
  | 0, h, hc => cases h; exact jq_look jq_k250
  | 1, h, hc => cases h; exact jq_look jq_k251
  | 2, h, hc => cases h; exact jq_look jq_k252
  | 3, h, hc => cases h; exact jq_look jq_k253
  | 4, h, hc => cases h; exact jq_look jq_k254
  | 5, h, hc => cases h; exact jq_look jq_k255
  | 6, h, hc => cases h; exact jq_look jq_k256
  | 7, h, hc => cases h; exact jq_look jq_k257
  | 8, h, hc => cases h; exact jq_look jq_k258
  | 9, h, hc => cases h; exact jq_look jq_k259
  | 10, h, hc => cases h; exact jq_look jq_k260
  | 11, h, hc => cases h; exact jq_look jq_k261
  | 12, h, hc => cases h; exact jq_look jq_k262
  | 13, h, hc => cases h; exact jq_look jq_k263
  | 14, h, hc => cases h; exact jq_look jq_k264
  | 15, h, hc => cases h; exact jq_look jq_k265
  | 16, h, hc => cases h; exact jq_look jq_k266
  | 17, h, hc => cases h; exact jq_look jq_k267
  | 18, h, hc => cases h; exact jq_look jq_k268
  | 19, h, hc => cases h; exact jq_look jq_k269
  | 20, h, hc => cases h; exact jq_look jq_k270
  | 21, h, hc => cases h; exact jq_look jq_k271
  | 22, h, hc => cases h; exact jq_look jq_k272
  | 23, h, hc => cases h; exact jq_look jq_k273
  | 24, h, hc => cases h; exact jq_look jq_k274
  | 25, h, hc => cases h; exact jq_look jq_k275
  | 26, h, hc => cases h; exact jq_look jq_k276
  | 27, h, hc => cases h; exact jq_look jq_k277
  | 28, h, hc => cases h; exact jq_look jq_k278
  | 29, h, hc => cases h; exact jq_look jq_k279
  | 30, h, hc => cases h; exact jq_look jq_k280
  | 31, h, hc => cases h; exact jq_look jq_k281
  | 32, h, hc => cases h; exact jq_look jq_k282
  | 33, h, hc => cases h; exact jq_look jq_k283
  | 34, h, hc => cases h; exact jq_look jq_k284
  | 35, h, hc => cases h; exact jq_look jq_k285
  | 36, h, hc => cases h; exact jq_look jq_k286
  | 37, h, hc => cases h; exact jq_look jq_k287
  | 38, h, hc => cases h; exact jq_look jq_k288
  | 39, h, hc => cases h; exact jq_look jq_k289
  | 40, h, hc => cases h; exact jq_look jq_k290
  | 41, h, hc => cases h; exact jq_look jq_k291
  | 42, h, hc => cases h; exact jq_look jq_k292
  | 43, h, hc => cases h; exact jq_look jq_k293
  | 44, h, hc => cases h; exact jq_look jq_k294
  | 45, h, hc => cases h; exact jq_look jq_k295
  | 46, h, hc => cases h; exact jq_look jq_k296
  | 47, h, hc => cases h; exact jq_look jq_k297
  | 48, h, hc => cases h; exact jq_look jq_k298
  | 49, h, hc => cases h; exact jq_look jq_k299
  | j + 50, h, hc => simp [mj_P_5] at h
theorem jq_K_6 : ∀ (j : Nat) (M : mj_M), mj_P_6[j]? = some M → jqcl (300 + j) = true → jqM M := by
  intro j M h hc
  match j, h, hc with
  | 0, h, hc => cases h; exact jq_look jq_k300
  | 1, h, hc => cases h; exact jq_look jq_k301
  | 2, h, hc => cases h; exact jq_look jq_k302
  | 3, h, hc => cases h; exact jq_look jq_k303
  | 4, h, hc => cases h; exact jq_look jq_k304
  | 5, h, hc => cases h; exact jq_look jq_k305
  | 6, h, hc => cases h; exact jq_look jq_k306
  | 7, h, hc => cases h; exact jq_look jq_k307
  | 8, h, hc => cases h; exact jq_look jq_k308
  | 9, h, hc => cases h; exact jq_look jq_k309
  | 10, h, hc => cases h; exact jq_look jq_k310
  | 11, h, hc => cases h; exact jq_look jq_k311
  | 12, h, hc => cases h; exact jq_look jq_k312
  | 13, h, hc => cases h; exact jq_look jq_k313
  | 14, h, hc => cases h; exact jq_look jq_k314
  | 15, h, hc => cases h; exact jq_look jq_k315
  | 16, h, hc => cases h; exact jq_look jq_k316
  | 17, h, hc => cases h; exact jq_look jq_k317
  | 18, h, hc => cases h; exact jq_look jq_k318
  | 19, h, hc => cases h; exact jq_look jq_k319
  | 20, h, hc => cases h; exact jq_look jq_k320
  | 21, h, hc => cases h; exact jq_look jq_k321
  | 22, h, hc => exact absurd hc (by decide)
  | 23, h, hc => cases h; exact jq_look jq_k323
  | 24, h, hc => cases h; exact jq_look jq_k324
  | 25, h, hc => cases h; exact jq_look jq_k325
  | 26, h, hc => cases h; exact jq_look jq_k326
  | 27, h, hc => cases h; exact jq_look jq_k327
  | 28, h, hc => cases h; exact jq_look jq_k328
  | 29, h, hc => cases h; exact jq_look jq_k329
  | 30, h, hc => cases h; exact jq_look jq_k330
  | 31, h, hc => cases h; exact jq_look jq_k331
  | 32, h, hc => cases h; exact jq_look jq_k332
  | 33, h, hc => cases h; exact jq_look jq_k333
  | 34, h, hc => cases h; exact jq_look jq_k334
  | 35, h, hc => cases h; exact jq_look jq_k335
  | 36, h, hc => cases h; exact jq_look jq_k336
  | 37, h, hc => cases h; exact jq_look jq_k337
  | 38, h, hc => cases h; exact jq_look jq_k338
  | 39, h, hc => cases h; exact jq_look jq_k339
  | 40, h, hc => cases h; exact jq_look jq_k340
  | 41, h, hc => cases h; exact jq_look jq_k341
  | 42, h, hc => cases h; exact jq_look jq_k342
  | 43, h, hc => cases h; exact jq_look jq_k343
  | 44, h, hc => exact absurd hc (by decide)
  | 45, h, hc => exact absurd hc (by decide)
  | 46, h, hc => cases h; exact jq_look jq_k346
  | j + 47, h, hc => simp [mj_P_6] at h
theorem jq_app {a b : List mj_M} {o n : Nat} (hn : a.length = n) (ha : ∀ (j : Nat) (M : mj_M), a[j]? = some M → jqcl (o + j) = true → jqM M) (hb : ∀ (j : Nat) (M : mj_M), b[j]? = some M → jqcl (o + n + j) = true → jqM M) : ∀ (j : Nat) (M : mj_M), (a ++ b)[j]? = some M → jqcl (o + j) = true → jqM M := by
  intro j M h hc
  by_cases hj : j < a.length
  · rw [List.getElem?_append_left hj] at h
    exact ha j M h hc
  · rw [List.getElem?_append_right (by omega)] at h
    refine hb _ M h ?_
    rw [show o + n + (j - a.length) = o + j by omega]
    exact hc
theorem jq_all : ∀ (j : Nat) (M : mj_M), mj_P[j]? = some M → jqcl j = true → jqM M := fun j M h hc => (jq_app (n := 50) (o := 0) rfl jq_K_0 (jq_app (n := 50) (o := 50) rfl jq_K_1 (jq_app (n := 50) (o := 100) rfl jq_K_2 (jq_app (n := 50) (o := 150) rfl jq_K_3 (jq_app (n := 50) (o := 200) rfl jq_K_4 (jq_app (n := 50) (o := 250) rfl jq_K_5 jq_K_6)))))) j M h (by rw [Nat.zero_add]; exact hc)
theorem mj_Ok.qt {D j : Nat} {as : List Value} {h : mj_H} {Q : mj_R → Prop} (c : mj_Ok D j as h Q) (hj : jqcl j = true) : mj_Ok D j as h (fun r => Q r ∧ jqt h r.2) := by
  obtain ⟨F, r, h1, h2⟩ := c
  exact ⟨F, r, h1, h2, jqt.run jq_all F D j as h r hj h1⟩
