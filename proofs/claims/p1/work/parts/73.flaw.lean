/-! The law's code for the fast machine. -/
/-- a code cut into pieces of 120 places -/
def mq_lk : List (List (Option mj_I)) → Nat → Option mj_I
  | [], _ => none
  | c :: cs, pc => if pc < 120 then mj_look c pc else mq_lk cs (pc - 120)
def mq_fla : List (List (Option mj_I)) → List (Option mj_I)
  | [] => []
  | [c] => c
  | c :: d :: cs => c ++ mq_fla (d :: cs)
def mq_lkok : List (List (Option mj_I)) → Bool
  | [] => true
  | [c] => decide (c.length ≤ 120)
  | c :: d :: cs => decide (c.length = 120) && mq_lkok (d :: cs)
theorem mq_lk_eq : ∀ (cs : List (List (Option mj_I))) (pc : Nat), mq_lkok cs = true → mq_lk cs pc = mj_look (mq_fla cs) pc
  | [], pc, _ => by simp [mq_lk, mq_fla, mj_look]
  | [c], pc, h => by
    have h : c.length ≤ 120 := of_decide_eq_true h
    unfold mq_lk
    split
    · rfl
    · unfold mq_lk mj_look mq_fla
      rw [List.getElem?_eq_none_iff.mpr (by omega)]
  | c :: d :: cs, pc, h => by
    unfold mq_lkok at h
    rw [Bool.and_eq_true, decide_eq_true_eq] at h
    have ih := mq_lk_eq (d :: cs) (pc - 120) h.2
    unfold mq_lk mq_fla
    split
    · unfold mj_look
      rw [List.getElem?_append_left (by omega)]
    · rw [ih]
      unfold mj_look
      rw [List.getElem?_append_right (by omega), h.1]
def mq_csL : List (List (Option mj_I)) := [mj_lL_0, mj_lL_1, mj_lL_2, mj_lL_3, mj_lL_4, mj_lL_5, mj_lL_6, mj_lL_7, mj_lL_8, mj_lL_9, mj_lL_10, mj_lL_11, mj_lL_12, mj_lL_13, mj_lL_14, mj_lL_15, mj_lL_16, mj_lL_17, mj_lL_18, mj_lL_19, mj_lL_20, mj_lL_21, mj_lL_22, mj_lL_23, mj_lL_24, mj_lL_25, mj_lL_26]
theorem mq_csL_ok : mq_lkok mq_csL = true := by decide +kernel
def mq_mL : mj_M := (mj_mL.1, mj_mL.2.1, mj_mL.2.2.1, mj_mL.2.2.2.1, mq_lk mq_csL, mj_mL.2.2.2.2.2)
theorem mq_mL_eq : mj_mL = mq_mL := by
  have e : mj_look mj_lL = mq_lk mq_csL := by
    funext pc
    rw [mq_lk_eq mq_csL pc mq_csL_ok]
    rfl
  show (mj_mL.1, mj_mL.2.1, mj_mL.2.2.1, mj_mL.2.2.2.1, mj_look mj_lL, mj_mL.2.2.2.2.2) = mq_mL
  rw [e]
  rfl
noncomputable def mq_lsL : List mq_Y := Sum.rec (motive := fun _ => List mq_Y) (fun q => Prod.rec (motive := fun _ => List mq_Y) (fun _ ls => ls) q) (fun _ => []) mq_dL
set_option maxRecDepth 100000 in
theorem mq_cL1 : mq_lsL = mq_dlL.map mq_run := rfl
theorem mq_cL2 : mq_ckL mq_mL mq_ppL mq_dlL mq_ppL = true := by decide +kernel
theorem mq_cL : mq_ckL mj_mL mq_ppL mq_dlL mq_ppL = true := by rw [mq_mL_eq]; exact mq_cL2
