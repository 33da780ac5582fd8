/-! The fast machine: its straight steps together. -/
/-- what a straight step is checked against: how long its instruction is -/
def mq_ckX (x ins : Instr) (r1 r2 r3 : Nat) : Option Nat := match x with
  | .iadd => (match ins with | .iadd => some 1 | _ => none)
  | .isub => (match ins with | .isub => some 1 | _ => none)
  | .imul => (match ins with | .imul => some 1 | _ => none)
  | .idiv => (match ins with | .idiv => some 1 | _ => none)
  | .irem => (match ins with | .irem => some 1 | _ => none)
  | .ineg => (match ins with | .ineg => some 1 | _ => none)
  | .iand => (match ins with | .iand => some 1 | _ => none)
  | .i2b => (match ins with | .i2b => some 1 | _ => none)
  | .ladd => (match ins with | .ladd => some 1 | _ => none)
  | .lsub => (match ins with | .lsub => some 1 | _ => none)
  | .lmul => (match ins with | .lmul => some 1 | _ => none)
  | .ldiv => (match ins with | .ldiv => some 1 | _ => none)
  | .lrem => (match ins with | .lrem => some 1 | _ => none)
  | .lneg => (match ins with | .lneg => some 1 | _ => none)
  | .lshl => (match ins with | .lshl => some 1 | _ => none)
  | .i2l => (match ins with | .i2l => some 1 | _ => none)
  | .l2i => (match ins with | .l2i => some 1 | _ => none)
  | .land => (match ins with | .land => some 1 | _ => none)
  | .lor => (match ins with | .lor => some 1 | _ => none)
  | .dup => (match ins with | .dup => some 1 | _ => none)
  | .dup2 => (match ins with | .dup2 => some 1 | _ => none)
  | .pop => (match ins with | .pop => some 1 | _ => none)
  | .pop2 => (match ins with | .pop2 => some 1 | _ => none)
  | .i2d => (match ins with | .i2d => some 1 | _ => none)
  | .i2f => (match ins with | .i2f => some 1 | _ => none)
  | .ddiv => (match ins with | .ddiv => some 1 | _ => none)
  | .fdiv => (match ins with | .fdiv => some 1 | _ => none)
  | .f2d => (match ins with | .f2d => some 1 | _ => none)
  | .arraylength => (match ins with | .arraylength => some 1 | _ => none)
  | .aaload => (match ins with | .aaload => some 1 | _ => none)
  | .iastore => (match ins with | .iastore => some 1 | _ => none)
  | .lastore => (match ins with | .lastore => some 1 | _ => none)
  | .bastore => (match ins with | .bastore => some 1 | _ => none)
  | .aastore => (match ins with | .aastore => some 1 | _ => none)
  | .castore => (match ins with | .lastore => some 1 | _ => none)
  | .dcmp op => (match ins with | .dcmp op' => if op' = op then some 1 else none | _ => none)
  | .sastore => (match ins with | .multianewarray _ _ => some 4 | _ => none)
  | .dup_x1 => (match ins with | .invokestatic _ => if r3 = 2 then some 3 else none | _ => none)
  | .dup_x2 => (match ins with | .invokestatic _ => if r3 = 3 then some 3 else none | _ => none)
  | .faload => (match ins with | .invokestatic _ => if r3 = 4 then some 3 else none | _ => none)
  | .fastore => (match ins with | .invokespecial _ => if r3 = 5 then some 3 else none | _ => none)
  | .swap => (match ins with | .getfield _ => if r1 = 8 ∧ r2 = 1 then some 3 else none | _ => none)
  | .nop => (match ins with | .getfield _ => if r1 = 8 ∧ r2 = 2 then some 3 else none | _ => none)
  | .dup2_x1 => (match ins with | .putfield _ => if r1 = 8 ∧ r2 = 2 ∧ r3 = 0 then some 3 else none | _ => none)
  | .dup2_x2 => (match ins with | .iastore => some 1 | _ => none)
  | _ => none
def mq_ckk (nl : Nat) (o : mq_O) (ins : Instr) (r1 r2 r3 : Nat) : Option Nat := match o with
  | .inl w => mq_ckPu w ins r1 r2
  | .inr (.inl (kd, i)) => mq_ckLd kd i ins
  | .inr (.inr (.inl (kd, i))) => mq_ckSt nl kd i ins
  | .inr (.inr (.inr (.inl x))) => mq_ckX x ins r1 r2 r3
  | .inr (.inr (.inr (.inr (.inl (ci, f))))) => (match ins with | .getfield _ => if r1 = ci ∧ r2 = f then some 3 else none | _ => none)
  | .inr (.inr (.inr (.inr (.inr (.inl (i, c)))))) => mq_ckIi nl i c ins
  | .inr (.inr (.inr (.inr (.inr (.inr (.inl ty)))))) => (match ins with
    | .iaload => if ty = 0 then some 1 else none
    | .laload => if ty = 1 then some 1 else none
    | .baload => if ty = 2 then some 1 else none
    | _ => none)
  | .inr (.inr (.inr (.inr (.inr (.inr (.inr (.inl (ci, f, kd)))))))) => (match ins with | .putfield _ => if r1 = ci ∧ r2 = f ∧ r3 = kd ∧ kd ≤ 3 then some 3 else none | _ => none)
  | .inr (.inr (.inr (.inr (.inr (.inr (.inr (.inr (.inl ty)))))))) => (match ins with | .newarray _ => if r1 = ty ∧ ty ≤ 2 then some 2 else none | _ => none)
  | .inr (.inr (.inr (.inr (.inr (.inr (.inr (.inr (.inr (.inl ty))))))))) => (match ins with | .anewarray _ => if r1 = ty ∧ 3 ≤ ty then some 3 else none | _ => none)
  | .inr (.inr (.inr (.inr (.inr (.inr (.inr (.inr (.inr (.inr (ci, fs)))))))))) => (match ins with | .new _ => if r1 = ci ∧ r3 ≠ 1 ∧ mq_ws fs (mj_new r1) = true then some 3 else none | _ => none)
section MQE
variable {D pc : Nat} {M : mj_M} {Q : mj_R → Prop} {r1 r2 r3 r4 r5 : Nat} {ρ : Nat → Nat} {loc st : List mq_W} {n : Nat} {t : mq_Ht} {env : mq_V} {mloc : mj_L} {h : mj_H} {κ : mq_Kt} {ins : Instr}
theorem mq_exI_ok {x : Instr} {len : Nat} (hc : M.2.2.2.2.1 pc = some (ins, r1, r2, r3, r4, r5)) (hk : mq_ckX x ins r1 r2 r3 = some len) (R : mq_R ρ M.2.2.1 loc n t env mloc h) (g0 : mq_exI x loc st n t env κ = true) (G : mq_G D M Q ρ κ (pc + len)) : mj_T D M pc mloc (st.map (mq_val ρ)) h Q := by
  unfold mq_ckX at hk
  split at hk
  · split at hk
    · cases hk; exact mq_s_iadd hc R g0 G
    · cases hk
  · split at hk
    · cases hk; exact mq_s_b32 hc rfl (fun x y s loc h => by simp only [mj_step, mq_jn_sub]) R g0 G
    · cases hk
  · split at hk
    · cases hk; exact mq_s_imul hc R g0 G
    · cases hk
  · split at hk
    · cases hk; exact mq_s_d32 hc rfl (fun x y s loc h hz => by simp only [mj_step, mq_jn_div]; rw [if_neg hz]) R g0 G
    · cases hk
  · split at hk
    · cases hk; exact mq_s_d32 hc rfl (fun x y s loc h hz => by simp only [mj_step, mq_jn_rem]; rw [if_neg hz]) R g0 G
    · cases hk
  · split at hk
    · cases hk; exact mq_s_u32 hc rfl (fun x s loc h => by simp only [mj_step, mq_jn_neg]) R g0 G
    · cases hk
  · split at hk
    · cases hk; exact mq_s_iand hc R g0 G
    · cases hk
  · split at hk
    · cases hk; exact mq_s_u32 hc rfl (fun x s loc h => by simp only [mj_step, mq_jn_byte]) R g0 G
    · cases hk
  · split at hk
    · cases hk; exact mq_s_b64 hc rfl (fun x y s loc h => by simp only [mj_step, mq_jl_add]) R g0 G
    · cases hk
  · split at hk
    · cases hk; exact mq_s_b64 hc rfl (fun x y s loc h => by simp only [mj_step, mq_jl_sub]) R g0 G
    · cases hk
  · split at hk
    · cases hk; exact mq_s_b64 hc rfl (fun x y s loc h => by simp only [mj_step, mq_jl_mul]) R g0 G
    · cases hk
  · split at hk
    · cases hk; exact mq_s_d64 hc rfl (fun x y s loc h hz => by simp only [mj_step, mq_jl_div]; rw [if_neg hz]) R g0 G
    · cases hk
  · split at hk
    · cases hk; exact mq_s_d64 hc rfl (fun x y s loc h hz => by simp only [mj_step, mq_jl_rem]; rw [if_neg hz]) R g0 G
    · cases hk
  · split at hk
    · cases hk; exact mq_s_lneg hc R g0 G
    · cases hk
  · split at hk
    · cases hk; exact mq_s_lshl hc R g0 G
    · cases hk
  · split at hk
    · cases hk; exact mq_s_i2l hc R g0 G
    · cases hk
  · split at hk
    · cases hk; exact mq_s_l2i hc R g0 G
    · cases hk
  · split at hk
    · cases hk; exact mq_s_land hc R g0 G
    · cases hk
  · split at hk
    · cases hk; exact mq_s_lor hc R g0 G
    · cases hk
  · split at hk
    · cases hk; exact mq_s_dup hc R g0 G
    · cases hk
  · split at hk
    · cases hk; exact mq_s_dup2 hc R g0 G
    · cases hk
  · split at hk
    · cases hk; exact mq_s_pop hc R g0 G
    · cases hk
  · split at hk
    · cases hk; exact mq_s_pop2 hc R g0 G
    · cases hk
  · split at hk
    · cases hk; exact mq_s_i2d hc R g0 G
    · cases hk
  · split at hk
    · cases hk; exact mq_s_i2f hc R g0 G
    · cases hk
  · split at hk
    · cases hk; exact mq_s_ddiv hc R g0 G
    · cases hk
  · split at hk
    · cases hk; exact mq_s_fdiv hc R g0 G
    · cases hk
  · split at hk
    · cases hk; exact mq_s_f2d hc R g0 G
    · cases hk
  · split at hk
    · cases hk; exact mq_s_al hc R g0 G
    · cases hk
  · split at hk
    · cases hk; exact mq_s_aa hc R g0 G
    · cases hk
  · split at hk
    · cases hk; exact mq_s_ia hc R g0 G
    · cases hk
  · split at hk
    · cases hk; exact mq_s_la hc R g0 G
    · cases hk
  · split at hk
    · cases hk; exact mq_s_ba hc R g0 G
    · cases hk
  · split at hk
    · cases hk; exact mq_s_aas hc R g0 G
    · cases hk
  · split at hk
    · cases hk; exact mq_s_lw hc R g0 G
    · cases hk
  · split at hk
    · split at hk
      · rename_i e; subst e; cases hk; exact mq_s_dc hc R g0 G
      · cases hk
    · cases hk
  · split at hk
    · cases hk; exact mq_s_mn hc R g0 G
    · cases hk
  · split at hk
    · split at hk
      · rename_i e; subst e; cases hk; exact mq_s_mx hc R g0 G
      · cases hk
    · cases hk
  · split at hk
    · split at hk
      · rename_i e; subst e; cases hk; exact mq_s_mi hc R g0 G
      · cases hk
    · cases hk
  · split at hk
    · split at hk
      · rename_i e; subst e; cases hk; exact mq_s_cp hc R g0 G
      · cases hk
    · cases hk
  · split at hk
    · split at hk
      · rename_i e; subst e; cases hk; exact mq_s_ob hc R g0 G
      · cases hk
    · cases hk
  · split at hk
    · split at hk
      · rename_i e; obtain ⟨rfl, rfl⟩ := e; cases hk; exact mq_s_gw1 hc R g0 G
      · cases hk
    · cases hk
  · split at hk
    · split at hk
      · rename_i e; obtain ⟨rfl, rfl⟩ := e; cases hk; exact mq_s_gw2 hc R g0 G
      · cases hk
    · cases hk
  · split at hk
    · split at hk
      · rename_i e; obtain ⟨rfl, rfl, rfl⟩ := e; cases hk; exact mq_s_pw hc R g0 G
      · cases hk
    · cases hk
  · split at hk
    · cases hk; exact mq_s_ss hc R g0 G
    · cases hk
  · cases hk
theorem mq_ex_ok {o : mq_O} {len : Nat} (hc : M.2.2.2.2.1 pc = some (ins, r1, r2, r3, r4, r5)) (hk : mq_ckk M.2.2.1 o ins r1 r2 r3 = some len) (R : mq_R ρ M.2.2.1 loc n t env mloc h) (g0 : mq_ex o loc st n t env κ = true) (G : mq_G D M Q ρ κ (pc + len)) : mj_T D M pc mloc (st.map (mq_val ρ)) h Q := by
  match o, hk, g0 with
  | .inl w, hk, g0 => exact mq_s_pu hc hk R g0 G
  | .inr (.inl (kd, i)), hk, g0 => exact mq_s_ld hc hk R g0 G
  | .inr (.inr (.inl (kd, i))), hk, g0 => exact mq_s_st hc hk R g0 G
  | .inr (.inr (.inr (.inl x))), hk, g0 => exact mq_exI_ok hc hk R g0 G
  | .inr (.inr (.inr (.inr (.inl (ci, f))))), hk, g0 =>
    unfold mq_ckk at hk
    simp only at hk
    split at hk
    · split at hk
      · rename_i e; obtain ⟨rfl, rfl⟩ := e; cases hk; exact mq_s_gf hc R g0 G
      · cases hk
    · cases hk
  | .inr (.inr (.inr (.inr (.inr (.inl (i, c)))))), hk, g0 => exact mq_s_ii hc hk R g0 G
  | .inr (.inr (.inr (.inr (.inr (.inr (.inl ty)))))), hk, g0 =>
    unfold mq_ckk at hk
    simp only at hk
    split at hk
    · split at hk
      · rename_i e; cases hk; exact mq_s_ax hc (Or.inl ⟨rfl, e⟩) R g0 G
      · cases hk
    · split at hk
      · rename_i e; cases hk; exact mq_s_ax hc (Or.inr (Or.inl ⟨rfl, e⟩)) R g0 G
      · cases hk
    · split at hk
      · rename_i e; cases hk; exact mq_s_ax hc (Or.inr (Or.inr ⟨rfl, e⟩)) R g0 G
      · cases hk
    · cases hk
  | .inr (.inr (.inr (.inr (.inr (.inr (.inr (.inl (ci, f, kd)))))))), hk, g0 =>
    unfold mq_ckk at hk
    simp only at hk
    split at hk
    · split at hk
      · rename_i e; obtain ⟨rfl, rfl, rfl, e4⟩ := e; cases hk; exact mq_s_pf hc e4 R g0 G
      · cases hk
    · cases hk
  | .inr (.inr (.inr (.inr (.inr (.inr (.inr (.inr (.inl ty)))))))), hk, g0 =>
    unfold mq_ckk at hk
    simp only at hk
    split at hk
    · split at hk
      · rename_i e; obtain ⟨rfl, e2⟩ := e; cases hk; exact mq_s_na hc e2 R g0 G
      · cases hk
    · cases hk
  | .inr (.inr (.inr (.inr (.inr (.inr (.inr (.inr (.inr (.inl ty))))))))), hk, g0 =>
    unfold mq_ckk at hk
    simp only at hk
    split at hk
    · split at hk
      · rename_i e; obtain ⟨rfl, e2⟩ := e; cases hk; exact mq_s_an hc e2 R g0 G
      · cases hk
    · cases hk
  | .inr (.inr (.inr (.inr (.inr (.inr (.inr (.inr (.inr (.inr (ci, fs)))))))))), hk, g0 =>
    unfold mq_ckk at hk
    simp only at hk
    split at hk
    · split at hk
      · rename_i e; obtain ⟨rfl, e2, e3⟩ := e; cases hk; exact mq_s_nw hc e2 e3 R g0 G
      · cases hk
    · cases hk
end MQE
