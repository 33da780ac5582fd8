/-! The class's append, clearText, read. -/
section JBV
variable {n : Nat} {tm : Int} {h g : mj_H} {K L : Nat → Nat} {R : Nat → Nat → Nat}
theorem mq_nby_le (x : Int32) : mq_nby x ≤ 4 := by
  have hi : ∀ k, (if mq_byt x k = 0 then 0 else 1) ≤ 1 := fun k => by split <;> decide
  have := hi 3
  have := hi 2
  have := hi 1
  have := hi 0
  unfold mq_nby
  omega
theorem jc_141 {D p0 : Nat} {x1 x2 x3 x4 x5 : Int32} (ty : jTY K L R) (hg : g.length ≤ n) (o : jO K L R g n tm h) (kp0 : K p0 = 19) : mj_Ok (D + 3) 141 [.ref p0, .int x1, .int x2, .int x3, .int x4, .int x5] h (fun r => (200 < tm + (jcn x1 x2 x3 x4 x5 20 : Int) ∧ r.1 = .inr 1 ∧ jO K L R g (n + 1) tm r.2) ∨ (tm + (jcn x1 x2 x3 x4 x5 20 : Int) ≤ 200 ∧ r.1 = .inl (some (.int (jn (tm + (jcn x1 x2 x3 x4 x5 20 : Int))))) ∧ jO K L R g n (tm + (jcn x1 x2 x3 x4 x5 20 : Int)) r.2)) := by
  have ht := o.2.1
  rw [jcn_20]
  have n1 := mq_nby_le x1
  have n2 := mq_nby_le x2
  have n3 := mq_nby_le x3
  have n4 := mq_nby_le x4
  have n5 := mq_nby_le x5
  refine mj_Ok.of (M := mj_m141) (loc := [some (.ref p0), some (.int x1), some (.int x2), some (.int x3), some (.int x4), some (.int x5), none]) rfl rfl rfl ?_
  refine mj_T.pl rfl rfl rfl rfl ?_
  refine mj_T.call rfl rfl (Nat.le_of_ble_eq_true rfl) (Nat.le_of_ble_eq_true rfl) rfl rfl (mj_Ok.up (by omega) (jb_in (D := D) (x := x1))) (fun v h' hq => ?_) (fun i h' hq => by cases hq)
  cases hq
  refine mj_T.pl rfl rfl rfl rfl ?_
  refine mj_T.call rfl rfl (Nat.le_of_ble_eq_true rfl) (Nat.le_of_ble_eq_true rfl) rfl rfl (mj_Ok.up (by omega) (jb_in (D := D) (x := x2))) (fun v h' hq => ?_) (fun i h' hq => by cases hq)
  cases hq
  refine mj_T.eq (st2 := [.int (jn (mq_nby x2 : Int)), .int (jn ((mq_nby x1 : Int) : Int))]) ?_ rfl rfl rfl rfl
  refine mj_T.iadd rfl ?_
  refine mj_T.pl rfl rfl rfl rfl ?_
  refine mj_T.call rfl rfl (Nat.le_of_ble_eq_true rfl) (Nat.le_of_ble_eq_true rfl) rfl rfl (mj_Ok.up (by omega) (jb_in (D := D) (x := x3))) (fun v h' hq => ?_) (fun i h' hq => by cases hq)
  cases hq
  refine mj_T.eq (st2 := [.int (jn (mq_nby x3 : Int)), .int (jn ((((mq_nby x1 : Int) : Int) + (mq_nby x2 : Int)) : Int))]) ?_ rfl rfl rfl rfl
  refine mj_T.iadd rfl ?_
  refine mj_T.pl rfl rfl rfl rfl ?_
  refine mj_T.call rfl rfl (Nat.le_of_ble_eq_true rfl) (Nat.le_of_ble_eq_true rfl) rfl rfl (mj_Ok.up (by omega) (jb_in (D := D) (x := x4))) (fun v h' hq => ?_) (fun i h' hq => by cases hq)
  cases hq
  refine mj_T.eq (st2 := [.int (jn (mq_nby x4 : Int)), .int (jn ((((((mq_nby x1 : Int) : Int) + (mq_nby x2 : Int)) : Int) + (mq_nby x3 : Int)) : Int))]) ?_ rfl rfl rfl rfl
  refine mj_T.iadd rfl ?_
  refine mj_T.pl rfl rfl rfl rfl ?_
  refine mj_T.call rfl rfl (Nat.le_of_ble_eq_true rfl) (Nat.le_of_ble_eq_true rfl) rfl rfl (mj_Ok.up (by omega) (jb_in (D := D) (x := x5))) (fun v h' hq => ?_) (fun i h' hq => by cases hq)
  cases hq
  refine mj_T.eq (st2 := [.int (jn (mq_nby x5 : Int)), .int (jn ((((((((mq_nby x1 : Int) : Int) + (mq_nby x2 : Int)) : Int) + (mq_nby x3 : Int)) : Int) + (mq_nby x4 : Int)) : Int))]) ?_ rfl rfl rfl rfl
  refine mj_T.iadd rfl ?_
  have ea : (((((((((mq_nby x1 : Int) : Int) + (mq_nby x2 : Int)) : Int) + (mq_nby x3 : Int)) : Int) + (mq_nby x4 : Int)) : Int) + (mq_nby x5 : Int)) = ((mq_nby x1 + mq_nby x2 + mq_nby x3 + mq_nby x4 + mq_nby x5 : Nat) : Int) := by omega
  rw [ea]
  generalize eN : mq_nby x1 + mq_nby x2 + mq_nby x3 + mq_nby x4 + mq_nby x5 = N
  refine mj_T.pl (loc' := [some (.ref p0), some (.int x1), some (.int x2), some (.int x3), some (.int x4), some (.int x5), some (.int (jn (N : Int)))]) rfl rfl rfl rfl ?_
  refine mj_T.pl rfl rfl rfl rfl ?_
  refine jT.getR 19 127 27 ty o rfl kp0 (by decide) rfl rfl rfl (fun kb => ?_)
  refine jT.getI 27 7 o rfl kb (by decide) rfl rfl rfl (fun z (a : tm ≤ z) (b : z ≤ tm) f => ?_)
  refine mj_T.pl rfl rfl rfl rfl ?_
  refine mj_T.iadd rfl ?_
  refine mj_T.pl rfl rfl rfl rfl ?_
  refine jT.icmp rfl ⟨by omega, by omega⟩ ⟨by decide, by decide⟩ (fun c => ?_) (fun c => ?_)
  rotate_left
  · have c := of_decide_eq_false c
    exact mj_T.throws rfl rfl rfl (Nat.le_of_ble_eq_true rfl) (Or.inl ⟨by omega, rfl, o.app hg⟩)
  have c := of_decide_eq_true c
  refine mj_T.pl rfl rfl rfl rfl ?_
  refine jT.getR 19 127 27 ty o rfl kp0 (by decide) rfl rfl rfl (fun _ => ?_)
  refine mj_T.pl rfl rfl rfl rfl ?_
  refine mj_T.call rfl rfl (Nat.le_of_ble_eq_true rfl) (Nat.le_of_ble_eq_true rfl) (jrv_of o kb (by decide) rfl (by decide) rfl _) rfl (jc_81b (D := D) (x := x1) ty o kb (by omega)) (fun v h' hq => ?_) (fun i h' hq => by obtain ⟨_, hq, _⟩ := hq; cases hq)
  obtain ⟨h1, hq, o1⟩ := hq
  cases hq
  refine mj_T.pl rfl rfl rfl rfl ?_
  refine jT.getR 19 127 27 ty o1 rfl kp0 (by decide) rfl rfl rfl (fun _ => ?_)
  refine mj_T.pl rfl rfl rfl rfl ?_
  refine mj_T.call rfl rfl (Nat.le_of_ble_eq_true rfl) (Nat.le_of_ble_eq_true rfl) (jrv_of o1 kb (by decide) rfl (by decide) rfl _) rfl (jc_81b (D := D) (x := x2) ty o1 kb (by omega)) (fun v h' hq => ?_) (fun i h' hq => by obtain ⟨_, hq, _⟩ := hq; cases hq)
  obtain ⟨h2, hq, o2⟩ := hq
  cases hq
  refine mj_T.pl rfl rfl rfl rfl ?_
  refine jT.getR 19 127 27 ty o2 rfl kp0 (by decide) rfl rfl rfl (fun _ => ?_)
  refine mj_T.pl rfl rfl rfl rfl ?_
  refine mj_T.call rfl rfl (Nat.le_of_ble_eq_true rfl) (Nat.le_of_ble_eq_true rfl) (jrv_of o2 kb (by decide) rfl (by decide) rfl _) rfl (jc_81b (D := D) (x := x3) ty o2 kb (by omega)) (fun v h' hq => ?_) (fun i h' hq => by obtain ⟨_, hq, _⟩ := hq; cases hq)
  obtain ⟨h3, hq, o3⟩ := hq
  cases hq
  refine mj_T.pl rfl rfl rfl rfl ?_
  refine jT.getR 19 127 27 ty o3 rfl kp0 (by decide) rfl rfl rfl (fun _ => ?_)
  refine mj_T.pl rfl rfl rfl rfl ?_
  refine mj_T.call rfl rfl (Nat.le_of_ble_eq_true rfl) (Nat.le_of_ble_eq_true rfl) (jrv_of o3 kb (by decide) rfl (by decide) rfl _) rfl (jc_81b (D := D) (x := x4) ty o3 kb (by omega)) (fun v h' hq => ?_) (fun i h' hq => by obtain ⟨_, hq, _⟩ := hq; cases hq)
  obtain ⟨h4, hq, o4⟩ := hq
  cases hq
  refine mj_T.pl rfl rfl rfl rfl ?_
  refine jT.getR 19 127 27 ty o4 rfl kp0 (by decide) rfl rfl rfl (fun _ => ?_)
  refine mj_T.pl rfl rfl rfl rfl ?_
  refine mj_T.call rfl rfl (Nat.le_of_ble_eq_true rfl) (Nat.le_of_ble_eq_true rfl) (jrv_of o4 kb (by decide) rfl (by decide) rfl _) rfl (jc_81b (D := D) (x := x5) ty o4 kb (by omega)) (fun v h' hq => ?_) (fun i h' hq => by obtain ⟨_, hq, _⟩ := hq; cases hq)
  obtain ⟨h5, hq, o5⟩ := hq
  cases hq
  have et : tm + (mq_nby x1 : Int) + (mq_nby x2 : Int) + (mq_nby x3 : Int) + (mq_nby x4 : Int) + (mq_nby x5 : Int) = tm + (N : Int) := by omega
  rw [et] at o5
  refine mj_T.pl rfl rfl rfl rfl ?_
  refine jT.getR 19 127 27 ty o5 rfl kp0 (by decide) rfl rfl rfl (fun _ => ?_)
  refine jT.getI 27 7 o5 rfl kb (by decide) rfl rfl rfl (fun y (a2 : tm + (N : Int) ≤ y) (b2 : y ≤ tm + (N : Int)) f2 => ?_)
  have ey : y = tm + (N : Int) := by omega
  subst ey
  exact mj_T.ret rfl rfl rfl (Or.inr ⟨by omega, rfl, o5⟩)
theorem jc_142 {D p0 : Nat} (ty : jTY K L R) (o : jO K L R g n tm h) (kp0 : K p0 = 19) : mj_Ok (D + 1) 142 [.ref p0] h (fun r => r.1 = .inl (some (.int (jn tm))) ∧ jO K L R g n 0 r.2) := by
  have ht := o.2.1
  refine mj_Ok.of (M := mj_m142) (loc := [some (.ref p0), none]) rfl rfl rfl ?_
  refine mj_T.pl rfl rfl rfl rfl ?_
  refine jT.getR 19 127 27 ty o rfl kp0 (by decide) rfl rfl rfl (fun kb => ?_)
  refine jT.getI 27 7 o rfl kb (by decide) rfl rfl rfl (fun z (a : tm ≤ z) (b : z ≤ tm) f => ?_)
  have ez : z = tm := by omega
  subst ez
  refine mj_T.pl (loc' := [some (.ref p0), some (.int (jn z))]) rfl rfl rfl rfl ?_
  refine mj_T.pl rfl rfl rfl rfl ?_
  refine jT.getR 19 127 27 ty o rfl kp0 (by decide) rfl rfl rfl (fun _ => ?_)
  refine mj_T.pl rfl rfl rfl rfl ?_
  refine jT.putB (x := 0) (fun b hb => ty.2.2.2.2.2.2.1 b _ hb kb) o rfl kb ⟨by decide, by decide⟩ (fun h9 o9 _ _ => ?_)
  refine mj_T.pl rfl rfl rfl rfl ?_
  exact mj_T.ret rfl rfl rfl ⟨rfl, o9⟩
/-- rowOf: which ints are registers -/
theorem jc_149e {D p0 : Nat} {p1 : Int} (ty : jTY K L R) (hg : g.length ≤ n) (o : jO K L R g n tm h) (kp0 : K p0 = 19) (rp1 : -2147483648 ≤ p1 ∧ p1 ≤ 2147483647) : mj_Ok (D + 1) 149 [.ref p0, .int (jn p1)] h (fun r => (¬ (0 ≤ p1 ∧ p1 ≤ 5) ∧ r.1 = .inr 0 ∧ jO K L R g (n + 1) tm r.2) ∨ ((0 ≤ p1 ∧ p1 ≤ 5) ∧ ∃ a, r.1 = .inl (some (.ref a)) ∧ r.2 = h)) := by
  refine mj_Ok.of (M := mj_m149) (loc := [some (.ref p0), some (.int (jn p1))]) rfl rfl rfl ?_
  refine mj_T.pl rfl rfl rfl rfl ?_
  refine jT.if0 rfl rp1 (fun c => ?_) (fun c => ?_)
  · have c := of_decide_eq_true c
    exact mj_T.throws rfl rfl rfl (Nat.le_of_ble_eq_true rfl) (Or.inl ⟨by omega, rfl, o.app hg⟩)
  · have c := of_decide_eq_false c
    iterate 2 refine mj_T.pl rfl rfl rfl rfl ?_
    refine jT.getR 19 110 10 ty o rfl kp0 (by decide) rfl rfl rfl (fun kb => ?_)
    refine jT.getR 10 106 6 ty o rfl kb (by decide) rfl rfl rfl (fun kr => ?_)
    refine jT.alen 6 ty o rfl kr (by decide) (by decide) (fun z e _ _ => ?_)
    have e6 := ty.2.2.2.2.2.2.2 _ kb
    refine jT.icmp rfl rp1 ⟨by omega, by omega⟩ (fun c2 => ?_) (fun c2 => ?_)
    · have c2 := of_decide_eq_true c2
      refine mj_T.pl rfl rfl rfl rfl ?_
      refine jT.getR 19 110 10 ty o rfl kp0 (by decide) rfl rfl rfl (fun _ => ?_)
      refine jT.getR 10 106 6 ty o rfl kb (by decide) rfl rfl rfl (fun _ => ?_)
      refine mj_T.pl rfl rfl rfl rfl ?_
      refine jT.aald 6 2 ty o rfl kr (by decide) (by decide) rfl rp1 ⟨by omega, by omega⟩ (fun _ => ?_)
      exact mj_T.ret rfl rfl rfl (Or.inr ⟨by omega, _, rfl, rfl⟩)
    · have c2 := of_decide_eq_false c2
      exact mj_T.throws rfl rfl rfl (Nat.le_of_ble_eq_true rfl) (Or.inl ⟨by omega, rfl, o.app hg⟩)
/-- read: no register, and nothing is changed; else the text is taken -/
theorem jc_114 {D p0 : Nat} {p1 : Int} (ty : jTY K L R) (hg : g.length ≤ n) (o : jO K L R g n tm h) (kp0 : K p0 = 19) (rp1 : -2147483648 ≤ p1 ∧ p1 ≤ 2147483647) : mj_Ok (D + 56) 114 [.ref p0, .int (jn p1)] h (fun r => (¬ (0 ≤ p1 ∧ p1 ≤ 5) ∧ r.1 = .inr 0 ∧ jO K L R g (n + 1) tm r.2) ∨ ((0 ≤ p1 ∧ p1 ≤ 5) ∧ ((∃ z : Int, r.1 = .inl (some (.int (jn z))) ∧ jO K L R g n 0 r.2) ∨ (∃ i, i ∈ [0, 2, 1] ∧ r.1 = .inr i ∧ jO K L R g (n + 1) 0 r.2)))) := by
  refine mj_Ok.of (M := mj_m114) (loc := [some (.ref p0), some (.int (jn p1)), none]) rfl rfl rfl ?_
  iterate 2 refine mj_T.pl rfl rfl rfl rfl ?_
  refine mj_T.call rfl rfl (Nat.le_of_ble_eq_true rfl) (Nat.le_of_ble_eq_true rfl) (jrv_of o kp0 (by decide) rfl (by decide) rfl _) rfl (mj_Ok.up (by omega) (jc_149e (D := D) ty hg o kp0 rp1)) (fun v h1 hq => ?_) (fun i h1 hq => ?_)
  rotate_left
  · rcases hq with ⟨q1, q2, q3⟩ | ⟨_, _, q2, _⟩
    · cases q2
      exact Or.inl ⟨rfl, Or.inl ⟨q1, rfl, q3⟩⟩
    · cases q2
  rcases hq with ⟨_, q2, _⟩ | ⟨hp, a, q2, q3⟩
  · cases q2
  cases q2
  have q3 : h1 = h := q3
  subst q3
  refine mj_T.pl rfl rfl rfl rfl ?_
  refine mj_T.pl rfl rfl rfl rfl ?_
  refine jT.getR 19 114 14 ty o rfl kp0 (by decide) rfl rfl rfl (fun kr => ?_)
  refine mj_T.pl rfl rfl rfl rfl ?_
  refine jT.getR 19 127 27 ty o rfl kp0 (by decide) rfl rfl rfl (fun kb => ?_)
  refine mj_T.call rfl rfl (Nat.le_of_ble_eq_true rfl) (Nat.le_of_ble_eq_true rfl) (jrv_of o kr (by decide) rfl (by decide) rfl _) rfl (mj_Ok.up (by omega) (jc_46 (D := D) ty hg o kr (Or.inr kb))) (fun v h2 hq => ?_) (fun i h2 hq => by exact absurd hq.1 (by simp))
  obtain ⟨⟨z, z0, z1, rfl⟩, o2⟩ := hq
  refine mj_T.pl (loc' := [some (.ref p0), some (.int (jn p1)), some (.int (jn z))]) rfl rfl rfl rfl ?_
  refine mj_T.pl rfl rfl rfl rfl ?_
  refine jT.getR 19 127 27 ty o2 rfl kp0 (by decide) rfl rfl rfl (fun _ => ?_)
  refine mj_T.pl rfl rfl rfl rfl ?_
  refine jT.putB (x := 0) (fun b hb => ty.2.2.2.2.2.2.1 b _ hb kb) o2 rfl kb ⟨by decide, by decide⟩ (fun h3 o3 _ _ => ?_)
  iterate 2 refine mj_T.pl rfl rfl rfl rfl ?_
  refine jT.getR 19 114 14 ty o3 rfl kp0 (by decide) rfl rfl rfl (fun _ => ?_)
  refine jT.getI 14 0 o3 rfl kr (by decide) rfl rfl rfl (fun e (e0 : -2147483648 ≤ e) (e1 : e ≤ 2147483647) _ => ?_)
  refine jT.putI 19 0 o3 rfl kp0 (by decide) rfl rfl rfl (Or.inl rfl) (by show -2147483648 ≤ e; omega) (by show e ≤ 2147483647; omega) (fun h4 o4 _ _ => ?_)
  refine mj_T.pl rfl rfl rfl rfl ?_
  refine jT.if0 rfl ⟨by omega, by omega⟩ (fun _ => ?_) (fun _ => ?_)
  rotate_left
  · exact mj_T.throws rfl rfl rfl (Nat.le_of_ble_eq_true rfl) (Or.inr ⟨hp, Or.inr ⟨_, by simp, rfl, o4.app hg⟩⟩)
  refine mj_T.pl rfl rfl rfl rfl ?_
  refine jT.getR 19 114 14 ty o4 rfl kp0 (by decide) rfl rfl rfl (fun _ => ?_)
  refine jT.getI 14 2 o4 rfl kr (by decide) rfl rfl rfl (fun t (t0 : 0 ≤ t) (t1 : t ≤ 1) _ => ?_)
  refine jT.if0 rfl ⟨by omega, by omega⟩ (fun _ => ?_) (fun _ => ?_)
  rotate_left
  · exact mj_T.throws rfl rfl rfl (Nat.le_of_ble_eq_true rfl) (Or.inr ⟨hp, Or.inr ⟨_, by simp, rfl, o4.app hg⟩⟩)
  refine mj_T.pl rfl rfl rfl rfl ?_
  refine jT.getR 19 114 14 ty o4 rfl kp0 (by decide) rfl rfl rfl (fun _ => ?_)
  refine mj_T.call rfl rfl (Nat.le_of_ble_eq_true rfl) (Nat.le_of_ble_eq_true rfl) (jrv_of o4 kr (by decide) rfl (by decide) rfl _) rfl (mj_Ok.up (by omega) (jc_47 (D := D) ty hg o4 kr)) (fun v h5 hq => ?_) (fun i h2 hq => by exact absurd hq.1 (by simp))
  obtain ⟨⟨b5, k5, rfl⟩, q5⟩ := hq
  have q5 : h5 = h4 := q5
  subst q5
  refine mj_T.pl rfl rfl rfl rfl ?_
  refine jT.getR 19 102 2 ty o4 rfl kp0 (by decide) rfl rfl rfl (fun k6 => ?_)
  refine mj_T.call rfl rfl (Nat.le_of_ble_eq_true rfl) (Nat.le_of_ble_eq_true rfl) rfl rfl (mj_Ok.up (by omega) (jc_164 (D := D) ty hg o4 k5 k6)) (fun v h6 hq => ?_) (fun i h2 hq => by exact absurd hq.1 (by simp))
  obtain ⟨q6, o6⟩ := hq
  have q6 : v = none := q6
  subst q6
  iterate 2 refine mj_T.pl rfl rfl rfl rfl ?_
  refine mj_T.call rfl rfl (Nat.le_of_ble_eq_true rfl) (Nat.le_of_ble_eq_true rfl) (jrv_of o6 kp0 (by decide) rfl (by decide) rfl _) rfl (mj_Ok.up (by omega) (jc_154 (D := D) ty hg o6 kp0 rp1)) (fun v h7 hq => ?_) (fun i h7 hq => Or.inl ⟨rfl, Or.inr ⟨hp, Or.inr ⟨i, jsub (A := [0]) rfl hq.1, rfl, hq.2⟩⟩⟩)
  obtain ⟨⟨z7, _, _, rfl⟩, o7⟩ := hq
  exact mj_T.ret rfl rfl rfl (Or.inr ⟨hp, Or.inl ⟨z7, rfl, o7⟩⟩)
end JBV
