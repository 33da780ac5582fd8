/-! trial -/
noncomputable def mq_ta : mq_T mq_W := mq_set 3 (mq_set 3 (mq_set 3 (mq_set 3 (mq_set 3 (mq_set 3 (.leaf mq_U) 0 (.inr (.inr (.inr (.inl (0, 1, 0)))))) 1 (.inr (.inr (.inr (.inl (1, 1, 0)))))) 2 (.inr (.inr (.inr (.inl (2, 1, 0)))))) 3 (.inr (.inr (.inr (.inl (3, 1, 0)))))) 4 (.inr (.inr (.inr (.inl (4, 1, 0)))))) 5 (.inr (.inr (.inr (.inl (5, 1, 0)))))
noncomputable def mq_t0 : mq_Ht := ([(0, some (.inl (100, 6, 3, mq_ta)))], .leaf none)
noncomputable def mq_fin : mq_Kr := fun w _ _ _ => Sum.rec (motive := fun _ => Bool) (fun n => Nat.beq n 1) (fun _ => false) w
noncomputable def mq_e0 (op : Nat) : mq_V := mq_nup (0, 4294967295) (mq_nup (0, 4294967295) [] 63 (op, op)) 62 (0, 6)
noncomputable def mq_lsL : List mq_Y := Sum.rec (motive := fun _ => List mq_Y) (fun q => Prod.rec (motive := fun _ => List mq_Y) (fun _ ls => ls) q) (fun _ => []) mq_dL
noncomputable def mq_try (op : Nat) : Bool := mq_loop mq_lsL (fun _ _ _ _ _ _ => false) (mq_go mq_tab 40) mq_fin (fun _ _ _ _ => false) 1000000 0 [.inr (.inl 0)] [] 1 mq_t0 (mq_e0 op)
theorem mq_te47 : mq_try 47 = true := by decide +kernel
