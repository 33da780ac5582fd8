/-! The law's table in pieces. -/
def mj_lks : List (List (Option mj_I)) → Nat → Option mj_I
  | [], _ => none
  | c :: cs, pc => if pc < 120 then mj_look c pc else mj_lks cs (pc - 120)
theorem mj_look_app {c l : List (Option mj_I)} (hc : c.length = 120) (pc : Nat) : mj_look (c ++ l) pc = if pc < 120 then mj_look c pc else mj_look l (pc - 120) := by
  by_cases h : pc < 120
  · rw [if_pos h]
    unfold mj_look
    rw [List.getElem?_append_left (by omega)]
  · rw [if_neg h]
    unfold mj_look
    rw [List.getElem?_append_right (by omega), hc]
theorem mj_lks_app {c l : List (Option mj_I)} {cs : List (List (Option mj_I))} (hc : c.length = 120) (k : ∀ pc, mj_look l pc = mj_lks cs pc) (pc : Nat) : mj_look (c ++ l) pc = mj_lks (c :: cs) pc := by
  rw [mj_look_app hc, k]
  rfl
theorem mj_lks_one {c : List (Option mj_I)} (hc : c.length ≤ 120) (pc : Nat) : mj_look c pc = mj_lks [c] pc := by
  show _ = if pc < 120 then mj_look c pc else none
  by_cases h : pc < 120
  · rw [if_pos h]
  · rw [if_neg h]
    unfold mj_look
    rw [List.getElem?_eq_none (by omega)]
theorem mj_ln_0 : mj_lL_0.length = 120 := by decide +kernel
theorem mj_ln_1 : mj_lL_1.length = 120 := by decide +kernel
theorem mj_ln_2 : mj_lL_2.length = 120 := by decide +kernel
theorem mj_ln_3 : mj_lL_3.length = 120 := by decide +kernel
theorem mj_ln_4 : mj_lL_4.length = 120 := by decide +kernel
theorem mj_ln_5 : mj_lL_5.length = 120 := by decide +kernel
theorem mj_ln_6 : mj_lL_6.length = 120 := by decide +kernel
theorem mj_ln_7 : mj_lL_7.length = 120 := by decide +kernel
theorem mj_ln_8 : mj_lL_8.length = 120 := by decide +kernel
theorem mj_ln_9 : mj_lL_9.length = 120 := by decide +kernel
theorem mj_ln_10 : mj_lL_10.length = 120 := by decide +kernel
theorem mj_ln_11 : mj_lL_11.length = 120 := by decide +kernel
theorem mj_ln_12 : mj_lL_12.length = 120 := by decide +kernel
theorem mj_ln_13 : mj_lL_13.length = 120 := by decide +kernel
theorem mj_ln_14 : mj_lL_14.length = 120 := by decide +kernel
theorem mj_ln_15 : mj_lL_15.length = 120 := by decide +kernel
theorem mj_ln_16 : mj_lL_16.length = 120 := by decide +kernel
theorem mj_ln_17 : mj_lL_17.length ≤ 120 := by decide +kernel
def mj_chs : List (List (Option mj_I)) := [mj_lL_0, mj_lL_1, mj_lL_2, mj_lL_3, mj_lL_4, mj_lL_5, mj_lL_6, mj_lL_7, mj_lL_8, mj_lL_9, mj_lL_10, mj_lL_11, mj_lL_12, mj_lL_13, mj_lL_14, mj_lL_15, mj_lL_16, mj_lL_17]
theorem mj_lk_eq : mj_look mj_lL = mj_lks mj_chs := funext (fun pc => (mj_lks_app mj_ln_0 (mj_lks_app mj_ln_1 (mj_lks_app mj_ln_2 (mj_lks_app mj_ln_3 (mj_lks_app mj_ln_4 (mj_lks_app mj_ln_5 (mj_lks_app mj_ln_6 (mj_lks_app mj_ln_7 (mj_lks_app mj_ln_8 (mj_lks_app mj_ln_9 (mj_lks_app mj_ln_10 (mj_lks_app mj_ln_11 (mj_lks_app mj_ln_12 (mj_lks_app mj_ln_13 (mj_lks_app mj_ln_14 (mj_lks_app mj_ln_15 (mj_lks_app mj_ln_16 (mj_lks_one mj_ln_17)))))))))))))))))) pc)
def mj_mK : mj_M := (mj_mL.1, mj_mL.2.1, mj_mL.2.2.1, mj_mL.2.2.2.1, mj_lks mj_chs, mj_mL.2.2.2.2.2)
theorem mj_mK_eq : mj_mL = mj_mK := by
  unfold mj_mK
  rw [← mj_lk_eq]
  rfl
