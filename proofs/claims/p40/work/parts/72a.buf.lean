/-! The class's calls that change the buffer's length. -/
section JBU
variable {D n : Nat} {tm : Int} {h g : mj_H} {K L : Nat → Nat} {R : Nat → Nat → Nat} {Q : mj_R → Prop}
theorem jc_80b {p0 : Nat} {p1 : Int} (ty : jTY K L R) (o : jO K L R g n tm h) (kp0 : K p0 = 27) : mj_Ok (D + 1) 80 [.ref p0, .int (jn p1)] h (fun r => ∃ h', r = (.inl none, h') ∧ jO K L R g n (if tm < 200 then tm + 1 else tm) h') := by
  have ht := o.2.1
  have hl : L (R p0 0) = 200 := ty.2.2.2.2.1 p0 kp0
  have hu : ∀ b, K b = 27 → b = p0 := fun b hb => ty.2.2.2.2.2.2.1 b p0 hb kp0
  refine mj_Ok.of (M := mj_m80) (loc := [some (.ref p0), some (.int (jn p1))]) rfl rfl rfl ?_
  refine mj_T.pl rfl rfl rfl rfl ?_
  refine jT.getI 27 7 o rfl kp0 (by decide) rfl rfl rfl (fun z1 (a1 : tm ≤ z1) (b1 : z1 ≤ tm) f1 => ?_)
  refine jT.if0 rfl ⟨by omega, by omega⟩ (fun c => ?_) (fun c => ?_)
  · have c := of_decide_eq_true c
    omega
  clear c
  refine mj_T.pl rfl rfl rfl rfl ?_
  refine jT.getI 27 7 o rfl kp0 (by decide) rfl rfl rfl (fun z2 (a2 : tm ≤ z2) (b2 : z2 ≤ tm) f2 => ?_)
  refine mj_T.pl rfl rfl rfl rfl ?_
  refine jT.getR 27 103 3 ty o rfl kp0 (by decide) rfl rfl rfl (fun k3 => ?_)
  refine jT.alen 3 ty o rfl k3 (by decide) (by decide) (fun z3 e3 (a3 : 0 ≤ z3) (b3 : z3 ≤ 1000) => ?_)
  refine jT.icmp rfl ⟨by omega, by omega⟩ ⟨by omega, by omega⟩ (fun c => ?_) (fun c => ?_)
  · have c := of_decide_eq_true c
    exact mj_T.ret rfl rfl rfl ⟨h, rfl, by rw [if_neg (by omega)]; exact o⟩
  · have c := of_decide_eq_false c
    refine mj_T.pl rfl rfl rfl rfl ?_
    refine jT.getR 27 103 3 ty o rfl kp0 (by decide) rfl rfl rfl (fun k4 => ?_)
    refine mj_T.pl rfl rfl rfl rfl ?_
    refine jT.getI 27 7 o rfl kp0 (by decide) rfl rfl rfl (fun z4 (a4 : tm ≤ z4) (b4 : z4 ≤ tm) f4 => ?_)
    iterate 2 refine mj_T.pl rfl rfl rfl rfl ?_
    refine jT.anyI (fun z5 r5 => ?_)
    refine jT.bast o rfl k4 ⟨by omega, by omega⟩ ⟨by omega, by omega⟩ (fun h6 o6 u6 => ?_)
    iterate 2 refine mj_T.pl rfl rfl rfl rfl ?_
    refine jT.getI 27 7 o6 rfl kp0 (by decide) rfl rfl rfl (fun z7 (a7 : tm ≤ z7) (b7 : z7 ≤ tm) f7 => ?_)
    refine mj_T.pl rfl rfl rfl rfl ?_
    refine jT.iadd rfl (fun z8 r8 e8 => ?_)
    replace e8 := e8 ⟨by omega, by omega⟩
    refine jT.putB (x := z8) hu o6 rfl kp0 ⟨by omega, by omega⟩ (fun h9 o9 _ _ => ?_)
    refine mj_T.ret rfl rfl rfl ⟨h9, rfl, ?_⟩
    rw [if_pos (by omega), ← show z8 = tm + 1 by omega]
    exact o9
theorem jb81_step {a s : Nat} {x : Int32} {l3 : Option Value} (ty : jTY K L R) (ka : K a = 27) (o : jO K L R g n tm h) (hs : s = 24 ∨ s = 16 ∨ s = 8 ∨ s = 0) (hroom : mq_byt x (s / 8) ≠ 0 → tm + 1 ≤ 200) (k : ∀ h' l3', jO K L R g n (tm + (if mq_byt x (s / 8) = 0 then 0 else 1)) h' → mj_T (D + 1) mj_m81 3 [some (.ref a), some (.int x), some (.int (jn ((s : Nat) + -8))), l3'] [] h' Q) : mj_T (D + 1) mj_m81 3 [some (.ref a), some (.int x), some (.int (jn (s : Nat))), l3] [] h Q := by
  have hb := jb_byt_lt x (s / 8)
  refine mj_T.pl rfl rfl rfl rfl ?_
  refine mj_T.if0 rfl ⟨by omega, by omega⟩ (fun hc => ?_) (fun hc => ?_)
  · simp only [jc, decide_eq_true_eq] at hc; omega
  iterate 5 refine mj_T.pl rfl rfl rfl rfl ?_
  refine mj_T.eq (st2 := [.int (jn (mq_byt x (s / 8) : Nat))]) ?_ rfl rfl (congrArg (fun v => [Value.int v]) (jb_shr x hs)) rfl
  refine mj_T.pl (loc' := [some (.ref a), some (.int x), some (.int (jn (s : Nat))), some (.int (jn (mq_byt x (s / 8) : Nat)))]) rfl rfl rfl rfl ?_
  have fin : ∀ h', jO K L R g n (tm + (if mq_byt x (s / 8) = 0 then 0 else 1)) h' → mj_T (D + 1) mj_m81 24 [some (.ref a), some (.int x), some (.int (jn (s : Nat))), some (.int (jn (mq_byt x (s / 8) : Nat)))] [] h' Q := fun h' o' => by
    refine mj_T.iinc (a := (s : Int)) rfl rfl ?_
    exact mj_T.pl rfl rfl rfl rfl (k h' _ o')
  refine mj_T.pl rfl rfl rfl rfl ?_
  refine mj_T.if0 rfl ⟨by omega, by omega⟩ (fun hc => ?_) (fun hc => ?_)
  · simp only [jc, decide_eq_true_eq] at hc
    refine fin h ?_
    rw [if_pos (by omega), Int.add_zero]
    exact o
  · simp only [jc, decide_eq_false_iff_not] at hc
    have hn : mq_byt x (s / 8) ≠ 0 := by omega
    have hr := hroom hn
    iterate 2 refine mj_T.pl rfl rfl rfl rfl ?_
    refine mj_T.call rfl rfl (Nat.le_of_ble_eq_true rfl) (Nat.le_of_ble_eq_true rfl) (jrv_of o ka (by decide) rfl (by decide) rfl _) rfl (jc_80b (D := D) ty o ka) (fun v h' hq => ?_) (fun i h' hq => by obtain ⟨_, hq, _⟩ := hq; cases hq)
    obtain ⟨h2, hq, o2⟩ := hq
    cases hq
    refine fin _ ?_
    rw [if_neg hn]
    rw [if_pos (by omega)] at o2
    exact o2
theorem jc_81b {a : Nat} {x : Int32} (ty : jTY K L R) (o : jO K L R g n tm h) (ka : K a = 27) (hr : tm + (mq_nby x : Int) ≤ 200) : mj_Ok (D + 2) 81 [.ref a, .int x] h (fun r => ∃ h', r = (.inl none, h') ∧ jO K L R g n (tm + (mq_nby x : Int)) h') := by
  have en : (mq_nby x : Int) = (if mq_byt x 3 = 0 then 0 else 1) + (if mq_byt x 2 = 0 then 0 else 1) + (if mq_byt x 1 = 0 then 0 else 1) + (if mq_byt x 0 = 0 then 0 else 1) := by
    have e : ∀ k, ((if mq_byt x k = 0 then 0 else 1 : Nat) : Int) = if mq_byt x k = 0 then 0 else 1 := fun k => by split <;> rfl
    unfold mq_nby
    simp only [Int.natCast_add, e]
  have hi : ∀ k, (0 : Int) ≤ (if mq_byt x k = 0 then 0 else 1) := fun k => by split <;> decide
  have h1 : ∀ k, mq_byt x k ≠ 0 → (if mq_byt x k = 0 then (0 : Int) else 1) = 1 := fun k hk => if_neg hk
  have i3 := hi 3
  have i2 := hi 2
  have i1 := hi 1
  have i0 := hi 0
  refine mj_Ok.of (M := mj_m81) (loc := [some (.ref a), some (.int x), none, none]) rfl rfl rfl ?_
  iterate 2 refine mj_T.pl rfl rfl rfl rfl ?_
  refine jb81_step (s := 24) ty ka o (by decide) (fun q => by have := h1 3 q; omega) (fun g3 l3 o3 => ?_)
  refine jb81_step (s := 16) ty ka o3 (by decide) (fun q => by have := h1 2 q; show tm + (if mq_byt x 3 = 0 then 0 else 1) + 1 ≤ 200; omega) (fun g2 l2 o2 => ?_)
  refine jb81_step (s := 8) ty ka o2 (by decide) (fun q => by have := h1 1 q; show tm + (if mq_byt x 3 = 0 then 0 else 1) + (if mq_byt x 2 = 0 then 0 else 1) + 1 ≤ 200; omega) (fun g1 l1 o1 => ?_)
  refine jb81_step (s := 0) ty ka o1 (by decide) (fun q => by have := h1 0 q; show tm + (if mq_byt x 3 = 0 then 0 else 1) + (if mq_byt x 2 = 0 then 0 else 1) + (if mq_byt x 1 = 0 then 0 else 1) + 1 ≤ 200; omega) (fun g0 l0 o0 => ?_)
  refine mj_T.pl rfl rfl rfl rfl ?_
  refine mj_T.if0 (a := ((0 : Nat) : Int) + -8) rfl ⟨by omega, by omega⟩ (fun hc => ?_) (fun hc => ?_)
  rotate_left
  · simp only [jc, decide_eq_false_iff_not] at hc; omega
  refine mj_T.ret rfl rfl rfl ⟨g0, rfl, ?_⟩
  rw [en, show tm + ((if mq_byt x 3 = 0 then (0 : Int) else 1) + (if mq_byt x 2 = 0 then 0 else 1) + (if mq_byt x 1 = 0 then 0 else 1) + (if mq_byt x 0 = 0 then 0 else 1)) = tm + (if mq_byt x 3 = 0 then 0 else 1) + (if mq_byt x 2 = 0 then 0 else 1) + (if mq_byt x 1 = 0 then 0 else 1) + (if mq_byt x 0 = 0 then 0 else 1) by omega]
  exact o0
end JBU
