/-! The class: calls that write nothing leave the benches. -/
/-- a normal end leaves the heap, a thrown exception is one cell more -/
def jQe (h : mj_H) (exc : List Nat) (V : Option Value → Prop) (r : mj_R) : Prop := match r.1 with
  | .inl v => V v ∧ r.2 = h
  | .inr i => i ∈ exc ∧ r.2 = h ++ [xE]
section JQE
variable {K L : Nat → Nat} {R : Nat → Nat → Nat} {g h : mj_H} {n D pc r1 r2 r3 r4 r5 : Nat} {tm : Int} {M : mj_M} {loc : mj_L} {st : List Value}
theorem jT.thre {exc : List Nat} {V : Option Value → Prop} {ins : Instr} (_o : jO K L R g n tm h) (_hg : g.length ≤ n) (hc : M.2.2.2.2.1 pc = some (ins, r1, r2, r3, r4, r5)) (hk : mj_kind ins r3 = 2) (hh : M.2.2.2.2.2.1 = []) (hs : mj_cat st ≤ 8) (he : exc.contains r1 = true) : mj_T D M pc loc st h (jQe h exc V) := mj_T.throws hc hk hh hs ⟨List.contains_iff_mem.mp he, rfl⟩
theorem jT.calle {V : Option Value → Prop} {A exc : List Nat} {ins : Instr} {as : List Value} {V' : Option Value → Prop} (hc : M.2.2.2.2.1 pc = some (ins, r1, r2, r3, r4, r5)) (hk : mj_kind ins r3 = 3) (hl : r2 ≤ st.length) (hcat : mj_cat (st.drop r2) ≤ 8) (hr : mj_recv ins r2 r5 st h = true) (has : (st.take r2).reverse = as) (hcall : mj_Ok D r1 as h (jQe h A V)) (hM : M.2.2.2.2.2.1 = []) (hs : (A.all fun i => exc.contains i) = true) (q : ∀ v, V v → mj_T D M (pc + 3) loc (v.toList ++ st.drop r2) h (jQe h exc V')) : mj_T D M pc loc st h (jQe h exc V') :=
  mj_T.call hc hk hl hcat hr has hcall (fun v h' hq => by
    obtain ⟨h1, h2⟩ := hq
    have h2 : h' = h := h2
    subst h2
    exact q v h1) (fun i h' hq => Or.inl ⟨hM, jsub hs hq.1, hq.2⟩)
theorem jT.calle0 {V : Option Value → Prop} {A exc : List Nat} {ins : Instr} {as : List Value} {V' : Option Value → Prop} (hc : M.2.2.2.2.1 pc = some (ins, r1, r2, r3, r4, r5)) (hk : mj_kind ins r3 = 3) (hl : r2 ≤ st.length) (hcat : mj_cat (st.drop r2) ≤ 8) (hr : mj_recv ins r2 r5 st h = true) (has : (st.take r2).reverse = as) (hcall : mj_Ok D r1 as h (jQp K L R g n tm h [] V)) (_hM : M.2.2.2.2.2.1 = []) (_hs : (A.all fun i => exc.contains i) = true) (q : ∀ v, V v → mj_T D M (pc + 3) loc (v.toList ++ st.drop r2) h (jQe h exc V')) : mj_T D M pc loc st h (jQe h exc V') :=
  mj_T.call hc hk hl hcat hr has hcall (fun v h' hq => by
    obtain ⟨h1, h2⟩ := hq
    have h2 : h' = h := h2
    subst h2
    exact q v h1) (fun i h' hq => absurd hq.1 (by intro y; cases y))
theorem jT.rete {w : Option Value} {exc : List Nat} {V : Option Value → Prop} {ins : Instr} (hc : M.2.2.2.2.1 pc = some (ins, r1, r2, r3, r4, r5)) (hk : mj_kind ins r3 = 1) (hr : mj_retv ins M.2.2.2.1 st = some w) (q : V w) : mj_T D M pc loc st h (jQe h exc V) := mj_T.ret hc hk hr ⟨q, rfl⟩
theorem jT.retbe {exc : List Nat} {x : Int} (hc : M.2.2.2.2.1 pc = some (.ireturn, r1, r2, r3, r4, r5)) (hret : M.2.2.2.1 = some .boolean) (h0 : 0 ≤ x) (h1 : x ≤ 1) : mj_T D M pc loc [.int (jn x)] h (jQe h exc (jVi 0 1)) := by
  refine mj_T.ret hc rfl (v := some (.int (jn x))) ?_ ⟨⟨x, h0, h1, rfl⟩, rfl⟩
  have : x = 0 ∨ x = 1 := by omega
  simp only [mj_retv, hret]
  rcases this with q | q
  · subst q; rfl
  · subst q; rfl
end JQE
theorem je_149 {D n : Nat} {tm : Int} {h g : mj_H} {K L : Nat → Nat} {R : Nat → Nat → Nat} {p0 : Nat} {p1 : Int} (ty : jTY K L R) (hg : g.length ≤ n) (o : jO K L R g n tm h) (kp0 : K p0 = 19) (rp1 : -2147483648 ≤ p1 ∧ p1 ≤ 2147483647) : mj_Ok (D + 1) 149 [.ref p0, .int (jn p1)] h (jQe h [0] (jVr K 2)) := by
  refine mj_Ok.of (M := mj_m149) (loc := [some (.ref p0), some (.int (jn p1))]) rfl rfl rfl ?_
  refine mj_T.pl rfl rfl rfl rfl ?_
  refine jT.if0 rfl rp1 (fun c1 => ?_) (fun c1 => ?_)
  · have c1 := of_decide_eq_true c1
    exact jT.thre o hg rfl rfl rfl (Nat.le_of_ble_eq_true rfl) rfl
  · have c1 := of_decide_eq_false c1
    iterate 2 refine mj_T.pl rfl rfl rfl rfl ?_
    refine jT.getR 19 110 10 ty o rfl kp0 (by decide) rfl rfl rfl (fun k1 => ?_)
    refine jT.getR 10 106 6 ty o rfl k1 (by decide) rfl rfl rfl (fun k2 => ?_)
    refine jT.alen 6 ty o rfl k2 (by decide) (by decide) (fun z3 ez3 (az3 : 6 ≤ z3) (bz3 : z3 ≤ 9) => ?_)
    have rz3 : -2147483648 ≤ z3 ∧ z3 ≤ 2147483647 := ⟨by omega, by omega⟩
    refine jT.icmp rfl rp1 rz3 (fun c13 => ?_) (fun c13 => ?_)
    · have c13 := of_decide_eq_true c13
      refine mj_T.pl rfl rfl rfl rfl ?_
      refine jT.getR 19 110 10 ty o rfl kp0 (by decide) rfl rfl rfl (fun k4 => ?_)
      refine jT.getR 10 106 6 ty o rfl k4 (by decide) rfl rfl rfl (fun k5 => ?_)
      refine mj_T.pl rfl rfl rfl rfl ?_
      refine jT.aald 6 2 ty o rfl k5 (by decide) (by decide) rfl rp1 ⟨by omega, by omega⟩ (fun k6 => ?_)
      exact jT.rete rfl rfl rfl ⟨(R (R (R p0 0) 0) (p1 : Int).toNat), k6, rfl⟩
    · have c13 := of_decide_eq_false c13
      exact jT.thre o hg rfl rfl rfl (Nat.le_of_ble_eq_true rfl) rfl
theorem je_150 {D n : Nat} {tm : Int} {h g : mj_H} {K L : Nat → Nat} {R : Nat → Nat → Nat} {p0 : Int} (ty : jTY K L R) (hg : g.length ≤ n) (o : jO K L R g n tm h) (rp0 : -2147483648 ≤ p0 ∧ p0 ≤ 2147483647) : mj_Ok (D + 1) 150 [.int (jn p0)] h (jQe h [2] (jVp (0 ≤ p0 ∧ p0 ≤ 12))) := by
  refine mj_Ok.of (M := mj_m150) (loc := [some (.int (jn p0))]) rfl rfl rfl ?_
  refine mj_T.pl rfl rfl rfl rfl ?_
  refine jT.if0 rfl rp0 (fun c1 => ?_) (fun c1 => ?_)
  · have c1 := of_decide_eq_true c1
    exact jT.thre o hg rfl rfl rfl (Nat.le_of_ble_eq_true rfl) rfl
  · have c1 := of_decide_eq_false c1
    iterate 2 refine mj_T.pl rfl rfl rfl rfl ?_
    refine jT.icmp rfl rp0 ⟨by decide, by decide⟩ (fun c7 => ?_) (fun c7 => ?_)
    · have c7 := of_decide_eq_true c7
      exact jT.rete rfl rfl rfl ⟨rfl, by omega⟩
    · have c7 := of_decide_eq_false c7
      exact jT.thre o hg rfl rfl rfl (Nat.le_of_ble_eq_true rfl) rfl
theorem je_152 {D n : Nat} {tm : Int} {h g : mj_H} {K L : Nat → Nat} {R : Nat → Nat → Nat} {p0 : Int} (ty : jTY K L R) (hg : g.length ≤ n) (o : jO K L R g n tm h) (rp0 : -2147483648 ≤ p0 ∧ p0 ≤ 2147483647) : mj_Ok (D + 1) 152 [.int (jn p0)] h (jQe h [2] jV0) := by
  refine mj_Ok.of (M := mj_m152) (loc := [some (.int (jn p0)), none, none]) rfl rfl rfl ?_
  iterate 2 refine mj_T.pl rfl rfl rfl rfl ?_
  refine jT.icmp rfl rp0 ⟨by decide, by decide⟩ (fun c2 => ?_) (fun c2 => ?_)
  · have c2 := of_decide_eq_true c2
    refine mj_T.pl rfl rfl rfl rfl ?_
    refine mj_T.pl (loc' := [some (.int (jn p0)), some (.int (jn 0)), none]) rfl rfl rfl rfl ?_
    refine mj_T.pl rfl rfl rfl rfl ?_
    refine mj_T.pl (loc' := [some (.int (jn p0)), some (.int (jn 0)), some (.int (jn 2))]) rfl rfl rfl rfl ?_
    have t19_3 : ∀ (k4 : Nat) (x1 : Int) (x2 : Int), (0 ≤ x1 ∧ x1 ≤ 1) → (-2147483648 ≤ x2 ∧ x2 ≤ 2147483647) → (2 ≤ x2) → (2 ≤ x2 ∧ x2 ≤ 10) → (2147483647 - x2 : Int).toNat = k4 → mj_T (D + 0) mj_m152 19 [some (.int (jn p0)), some (.int (jn x1)), some (.int (jn x2))] [] h (jQe h [2] jV0) := by
      refine jInd (fun k4 ih5 => ?_)
      intro x1 x2 ax1 rx2 ix2 ivx2 hm6
      have rx1 : -2147483648 ≤ x1 ∧ x1 ≤ 2147483647 := ⟨by omega, by omega⟩
      refine mj_T.pl rfl rfl rfl rfl ?_
      refine mj_T.pl rfl rfl rfl rfl ?_
      refine jT.imul rfl (fun z7 rz7 ez7 => ?_)
      replace ez7 := jsq ivx2 ez7
      refine mj_T.pl rfl rfl rfl rfl ?_
      refine jT.icmp rfl rz7 ⟨by decide, by decide⟩ (fun c24 => ?_) (fun c24 => ?_)
      · have c24 := of_decide_eq_true c24
        refine mj_T.pl rfl rfl rfl rfl ?_
        refine jT.if0 rfl rx1 (fun c55 => ?_) (fun c55 => ?_)
        · have c55 := jne1 c55
          exact jT.rete rfl rfl rfl rfl
        · have c55 := jne2 c55
          exact jT.thre o hg rfl rfl rfl (Nat.le_of_ble_eq_true rfl) rfl
      · have c24 := of_decide_eq_false c24
        refine mj_T.pl rfl rfl rfl rfl ?_
        refine jT.if0 rfl rx1 (fun c28 => ?_) (fun c28 => ?_)
        · have c28 := of_decide_eq_true c28
          refine mj_T.pl rfl rfl rfl rfl ?_
          refine mj_T.pl (loc' := [some (.int (jn p0)), some (.int (jn 0)), some (.int (jn x2))]) rfl rfl rfl rfl ?_
          refine jT.iinc rfl rfl (fun z8 rz8 ez8 => ?_)
          replace ez8 := ez8 ⟨by omega, by omega⟩
          refine mj_T.eq (loc2 := [some (.int (jn p0)), some (.int (jn 0)), some (.int (jn z8))]) ?_ rfl rfl rfl rfl
          refine mj_T.pl rfl rfl rfl rfl ?_
          exact ih5 ((2147483647 - z8 : Int).toNat) (by omega) 0 z8 ⟨by omega, by omega⟩ rz8 (by omega) (by omega) rfl
        · have c28 := of_decide_eq_false c28
          iterate 2 refine mj_T.pl rfl rfl rfl rfl ?_
          refine jT.icmp rfl rp0 rx2 (fun c33 => ?_) (fun c33 => ?_)
          · have c33 := of_decide_eq_true c33
            iterate 2 refine mj_T.pl rfl rfl rfl rfl ?_
            refine mj_T.pl (loc' := [some (.int (jn p0)), some (.int (jn 1)), some (.int (jn x2))]) rfl rfl rfl rfl ?_
            refine jT.iinc rfl rfl (fun z9 rz9 ez9 => ?_)
            replace ez9 := ez9 ⟨by omega, by omega⟩
            refine mj_T.eq (loc2 := [some (.int (jn p0)), some (.int (jn 1)), some (.int (jn z9))]) ?_ rfl rfl rfl rfl
            refine mj_T.pl rfl rfl rfl rfl ?_
            exact ih5 ((2147483647 - z9 : Int).toNat) (by omega) 1 z9 ⟨by omega, by omega⟩ rz9 (by omega) (by omega) rfl
          · have c33 := of_decide_eq_false c33
            iterate 2 refine mj_T.pl rfl rfl rfl rfl ?_
            refine jT.irem rfl rx2 (by omega) (fun z10 rz10 => ?_)
            refine jT.if0 rfl rz10 (fun c39 => ?_) (fun c39 => ?_)
            · have c39 := of_decide_eq_true c39
              refine mj_T.pl rfl rfl rfl rfl ?_
              refine mj_T.pl (loc' := [some (.int (jn p0)), some (.int (jn 0)), some (.int (jn x2))]) rfl rfl rfl rfl ?_
              refine jT.iinc rfl rfl (fun z11 rz11 ez11 => ?_)
              replace ez11 := ez11 ⟨by omega, by omega⟩
              refine mj_T.eq (loc2 := [some (.int (jn p0)), some (.int (jn 0)), some (.int (jn z11))]) ?_ rfl rfl rfl rfl
              refine mj_T.pl rfl rfl rfl rfl ?_
              exact ih5 ((2147483647 - z11 : Int).toNat) (by omega) 0 z11 ⟨by omega, by omega⟩ rz11 (by omega) (by omega) rfl
            · have c39 := of_decide_eq_false c39
              iterate 2 refine mj_T.pl rfl rfl rfl rfl ?_
              refine mj_T.pl (loc' := [some (.int (jn p0)), some (.int (jn 1)), some (.int (jn x2))]) rfl rfl rfl rfl ?_
              refine jT.iinc rfl rfl (fun z12 rz12 ez12 => ?_)
              replace ez12 := ez12 ⟨by omega, by omega⟩
              refine mj_T.eq (loc2 := [some (.int (jn p0)), some (.int (jn 1)), some (.int (jn z12))]) ?_ rfl rfl rfl rfl
              refine mj_T.pl rfl rfl rfl rfl ?_
              exact ih5 ((2147483647 - z12 : Int).toNat) (by omega) 1 z12 ⟨by omega, by omega⟩ rz12 (by omega) (by omega) rfl
    exact t19_3 _ 0 2 ⟨by omega, by omega⟩ ⟨by decide, by decide⟩ (by omega) (by omega) rfl
  · have c2 := of_decide_eq_false c2
    iterate 2 refine mj_T.pl rfl rfl rfl rfl ?_
    refine jT.icmp rfl rp0 ⟨by decide, by decide⟩ (fun c8 => ?_) (fun c8 => ?_)
    · have c8 := of_decide_eq_true c8
      refine mj_T.pl rfl rfl rfl rfl ?_
      refine mj_T.pl (loc' := [some (.int (jn p0)), some (.int (jn 0)), none]) rfl rfl rfl rfl ?_
      refine mj_T.pl rfl rfl rfl rfl ?_
      refine mj_T.pl (loc' := [some (.int (jn p0)), some (.int (jn 0)), some (.int (jn 2))]) rfl rfl rfl rfl ?_
      have t19_15 : ∀ (k16 : Nat) (x13 : Int) (x14 : Int), (0 ≤ x13 ∧ x13 ≤ 1) → (-2147483648 ≤ x14 ∧ x14 ≤ 2147483647) → (2 ≤ x14) → (2 ≤ x14 ∧ x14 ≤ 10) → (2147483647 - x14 : Int).toNat = k16 → mj_T (D + 0) mj_m152 19 [some (.int (jn p0)), some (.int (jn x13)), some (.int (jn x14))] [] h (jQe h [2] jV0) := by
        refine jInd (fun k16 ih17 => ?_)
        intro x13 x14 ax13 rx14 ix14 ivx14 hm18
        have rx13 : -2147483648 ≤ x13 ∧ x13 ≤ 2147483647 := ⟨by omega, by omega⟩
        refine mj_T.pl rfl rfl rfl rfl ?_
        refine mj_T.pl rfl rfl rfl rfl ?_
        refine jT.imul rfl (fun z19 rz19 ez19 => ?_)
        replace ez19 := jsq ivx14 ez19
        refine mj_T.pl rfl rfl rfl rfl ?_
        refine jT.icmp rfl rz19 ⟨by decide, by decide⟩ (fun c24 => ?_) (fun c24 => ?_)
        · have c24 := of_decide_eq_true c24
          refine mj_T.pl rfl rfl rfl rfl ?_
          refine jT.if0 rfl rx13 (fun c55 => ?_) (fun c55 => ?_)
          · have c55 := jne1 c55
            exact jT.rete rfl rfl rfl rfl
          · have c55 := jne2 c55
            exact jT.thre o hg rfl rfl rfl (Nat.le_of_ble_eq_true rfl) rfl
        · have c24 := of_decide_eq_false c24
          refine mj_T.pl rfl rfl rfl rfl ?_
          refine jT.if0 rfl rx13 (fun c28 => ?_) (fun c28 => ?_)
          · have c28 := of_decide_eq_true c28
            refine mj_T.pl rfl rfl rfl rfl ?_
            refine mj_T.pl (loc' := [some (.int (jn p0)), some (.int (jn 0)), some (.int (jn x14))]) rfl rfl rfl rfl ?_
            refine jT.iinc rfl rfl (fun z20 rz20 ez20 => ?_)
            replace ez20 := ez20 ⟨by omega, by omega⟩
            refine mj_T.eq (loc2 := [some (.int (jn p0)), some (.int (jn 0)), some (.int (jn z20))]) ?_ rfl rfl rfl rfl
            refine mj_T.pl rfl rfl rfl rfl ?_
            exact ih17 ((2147483647 - z20 : Int).toNat) (by omega) 0 z20 ⟨by omega, by omega⟩ rz20 (by omega) (by omega) rfl
          · have c28 := of_decide_eq_false c28
            iterate 2 refine mj_T.pl rfl rfl rfl rfl ?_
            refine jT.icmp rfl rp0 rx14 (fun c33 => ?_) (fun c33 => ?_)
            · have c33 := of_decide_eq_true c33
              iterate 2 refine mj_T.pl rfl rfl rfl rfl ?_
              refine mj_T.pl (loc' := [some (.int (jn p0)), some (.int (jn 1)), some (.int (jn x14))]) rfl rfl rfl rfl ?_
              refine jT.iinc rfl rfl (fun z21 rz21 ez21 => ?_)
              replace ez21 := ez21 ⟨by omega, by omega⟩
              refine mj_T.eq (loc2 := [some (.int (jn p0)), some (.int (jn 1)), some (.int (jn z21))]) ?_ rfl rfl rfl rfl
              refine mj_T.pl rfl rfl rfl rfl ?_
              exact ih17 ((2147483647 - z21 : Int).toNat) (by omega) 1 z21 ⟨by omega, by omega⟩ rz21 (by omega) (by omega) rfl
            · have c33 := of_decide_eq_false c33
              iterate 2 refine mj_T.pl rfl rfl rfl rfl ?_
              refine jT.irem rfl rx14 (by omega) (fun z22 rz22 => ?_)
              refine jT.if0 rfl rz22 (fun c39 => ?_) (fun c39 => ?_)
              · have c39 := of_decide_eq_true c39
                refine mj_T.pl rfl rfl rfl rfl ?_
                refine mj_T.pl (loc' := [some (.int (jn p0)), some (.int (jn 0)), some (.int (jn x14))]) rfl rfl rfl rfl ?_
                refine jT.iinc rfl rfl (fun z23 rz23 ez23 => ?_)
                replace ez23 := ez23 ⟨by omega, by omega⟩
                refine mj_T.eq (loc2 := [some (.int (jn p0)), some (.int (jn 0)), some (.int (jn z23))]) ?_ rfl rfl rfl rfl
                refine mj_T.pl rfl rfl rfl rfl ?_
                exact ih17 ((2147483647 - z23 : Int).toNat) (by omega) 0 z23 ⟨by omega, by omega⟩ rz23 (by omega) (by omega) rfl
              · have c39 := of_decide_eq_false c39
                iterate 2 refine mj_T.pl rfl rfl rfl rfl ?_
                refine mj_T.pl (loc' := [some (.int (jn p0)), some (.int (jn 1)), some (.int (jn x14))]) rfl rfl rfl rfl ?_
                refine jT.iinc rfl rfl (fun z24 rz24 ez24 => ?_)
                replace ez24 := ez24 ⟨by omega, by omega⟩
                refine mj_T.eq (loc2 := [some (.int (jn p0)), some (.int (jn 1)), some (.int (jn z24))]) ?_ rfl rfl rfl rfl
                refine mj_T.pl rfl rfl rfl rfl ?_
                exact ih17 ((2147483647 - z24 : Int).toNat) (by omega) 1 z24 ⟨by omega, by omega⟩ rz24 (by omega) (by omega) rfl
      exact t19_15 _ 0 2 ⟨by omega, by omega⟩ ⟨by decide, by decide⟩ (by omega) (by omega) rfl
    · have c8 := of_decide_eq_false c8
      iterate 2 refine mj_T.pl rfl rfl rfl rfl ?_
      refine mj_T.pl (loc' := [some (.int (jn p0)), some (.int (jn 1)), none]) rfl rfl rfl rfl ?_
      refine mj_T.pl rfl rfl rfl rfl ?_
      refine mj_T.pl (loc' := [some (.int (jn p0)), some (.int (jn 1)), some (.int (jn 2))]) rfl rfl rfl rfl ?_
      have t19_27 : ∀ (k28 : Nat) (x25 : Int) (x26 : Int), (0 ≤ x25 ∧ x25 ≤ 1) → (-2147483648 ≤ x26 ∧ x26 ≤ 2147483647) → (2 ≤ x26) → (2 ≤ x26 ∧ x26 ≤ 10) → (2147483647 - x26 : Int).toNat = k28 → mj_T (D + 0) mj_m152 19 [some (.int (jn p0)), some (.int (jn x25)), some (.int (jn x26))] [] h (jQe h [2] jV0) := by
        refine jInd (fun k28 ih29 => ?_)
        intro x25 x26 ax25 rx26 ix26 ivx26 hm30
        have rx25 : -2147483648 ≤ x25 ∧ x25 ≤ 2147483647 := ⟨by omega, by omega⟩
        refine mj_T.pl rfl rfl rfl rfl ?_
        refine mj_T.pl rfl rfl rfl rfl ?_
        refine jT.imul rfl (fun z31 rz31 ez31 => ?_)
        replace ez31 := jsq ivx26 ez31
        refine mj_T.pl rfl rfl rfl rfl ?_
        refine jT.icmp rfl rz31 ⟨by decide, by decide⟩ (fun c24 => ?_) (fun c24 => ?_)
        · have c24 := of_decide_eq_true c24
          refine mj_T.pl rfl rfl rfl rfl ?_
          refine jT.if0 rfl rx25 (fun c55 => ?_) (fun c55 => ?_)
          · have c55 := jne1 c55
            exact jT.rete rfl rfl rfl rfl
          · have c55 := jne2 c55
            exact jT.thre o hg rfl rfl rfl (Nat.le_of_ble_eq_true rfl) rfl
        · have c24 := of_decide_eq_false c24
          refine mj_T.pl rfl rfl rfl rfl ?_
          refine jT.if0 rfl rx25 (fun c28 => ?_) (fun c28 => ?_)
          · have c28 := of_decide_eq_true c28
            refine mj_T.pl rfl rfl rfl rfl ?_
            refine mj_T.pl (loc' := [some (.int (jn p0)), some (.int (jn 0)), some (.int (jn x26))]) rfl rfl rfl rfl ?_
            refine jT.iinc rfl rfl (fun z32 rz32 ez32 => ?_)
            replace ez32 := ez32 ⟨by omega, by omega⟩
            refine mj_T.eq (loc2 := [some (.int (jn p0)), some (.int (jn 0)), some (.int (jn z32))]) ?_ rfl rfl rfl rfl
            refine mj_T.pl rfl rfl rfl rfl ?_
            exact ih29 ((2147483647 - z32 : Int).toNat) (by omega) 0 z32 ⟨by omega, by omega⟩ rz32 (by omega) (by omega) rfl
          · have c28 := of_decide_eq_false c28
            iterate 2 refine mj_T.pl rfl rfl rfl rfl ?_
            refine jT.icmp rfl rp0 rx26 (fun c33 => ?_) (fun c33 => ?_)
            · have c33 := of_decide_eq_true c33
              iterate 2 refine mj_T.pl rfl rfl rfl rfl ?_
              refine mj_T.pl (loc' := [some (.int (jn p0)), some (.int (jn 1)), some (.int (jn x26))]) rfl rfl rfl rfl ?_
              refine jT.iinc rfl rfl (fun z33 rz33 ez33 => ?_)
              replace ez33 := ez33 ⟨by omega, by omega⟩
              refine mj_T.eq (loc2 := [some (.int (jn p0)), some (.int (jn 1)), some (.int (jn z33))]) ?_ rfl rfl rfl rfl
              refine mj_T.pl rfl rfl rfl rfl ?_
              exact ih29 ((2147483647 - z33 : Int).toNat) (by omega) 1 z33 ⟨by omega, by omega⟩ rz33 (by omega) (by omega) rfl
            · have c33 := of_decide_eq_false c33
              iterate 2 refine mj_T.pl rfl rfl rfl rfl ?_
              refine jT.irem rfl rx26 (by omega) (fun z34 rz34 => ?_)
              refine jT.if0 rfl rz34 (fun c39 => ?_) (fun c39 => ?_)
              · have c39 := of_decide_eq_true c39
                refine mj_T.pl rfl rfl rfl rfl ?_
                refine mj_T.pl (loc' := [some (.int (jn p0)), some (.int (jn 0)), some (.int (jn x26))]) rfl rfl rfl rfl ?_
                refine jT.iinc rfl rfl (fun z35 rz35 ez35 => ?_)
                replace ez35 := ez35 ⟨by omega, by omega⟩
                refine mj_T.eq (loc2 := [some (.int (jn p0)), some (.int (jn 0)), some (.int (jn z35))]) ?_ rfl rfl rfl rfl
                refine mj_T.pl rfl rfl rfl rfl ?_
                exact ih29 ((2147483647 - z35 : Int).toNat) (by omega) 0 z35 ⟨by omega, by omega⟩ rz35 (by omega) (by omega) rfl
              · have c39 := of_decide_eq_false c39
                iterate 2 refine mj_T.pl rfl rfl rfl rfl ?_
                refine mj_T.pl (loc' := [some (.int (jn p0)), some (.int (jn 1)), some (.int (jn x26))]) rfl rfl rfl rfl ?_
                refine jT.iinc rfl rfl (fun z36 rz36 ez36 => ?_)
                replace ez36 := ez36 ⟨by omega, by omega⟩
                refine mj_T.eq (loc2 := [some (.int (jn p0)), some (.int (jn 1)), some (.int (jn z36))]) ?_ rfl rfl rfl rfl
                refine mj_T.pl rfl rfl rfl rfl ?_
                exact ih29 ((2147483647 - z36 : Int).toNat) (by omega) 1 z36 ⟨by omega, by omega⟩ rz36 (by omega) (by omega) rfl
      exact t19_27 _ 1 2 ⟨by omega, by omega⟩ ⟨by decide, by decide⟩ (by omega) (by omega) rfl
theorem je_119 {D n : Nat} {tm : Int} {h g : mj_H} {K L : Nat → Nat} {R : Nat → Nat → Nat} {p0 : Nat} {p1 : Int} (ty : jTY K L R) (hg : g.length ≤ n) (o : jO K L R g n tm h) (kp0 : K p0 = 19) (rp1 : -2147483648 ≤ p1 ∧ p1 ≤ 2147483647) : mj_Ok (D + 2) 119 [.ref p0, .int (jn p1)] h (jQe h [0] (jVi (-2147483648) 2147483647)) := by
  refine mj_Ok.of (M := mj_m119) (loc := [some (.ref p0), some (.int (jn p1))]) rfl rfl rfl ?_
  iterate 2 refine mj_T.pl rfl rfl rfl rfl ?_
  refine jT.calle rfl rfl (Nat.le_of_ble_eq_true rfl) (Nat.le_of_ble_eq_true rfl) (jrv_of o kp0 (by decide) rfl (by decide) rfl _) rfl (mj_Ok.up (Nat.add_le_add_left (by decide) D) (je_149 (D := D) ty hg o kp0 rp1)) rfl rfl (fun v1 qv1 => ?_)
  obtain ⟨a2, ka2, rfl⟩ := qv1
  refine mj_T.eq (pc2 := 5) (st2 := [.ref a2]) ?_ rfl rfl rfl rfl
  refine jT.calle0 (A := []) rfl rfl (Nat.le_of_ble_eq_true rfl) (Nat.le_of_ble_eq_true rfl) rfl rfl (mj_Ok.up (Nat.add_le_add_left (by decide) D) (jc_162 (D := D) ty hg o ka2)) rfl rfl (fun v3 qv3 => ?_)
  obtain ⟨z4, az4, bz4, rfl⟩ := qv3
  have rz4 : -2147483648 ≤ z4 ∧ z4 ≤ 2147483647 := ⟨by omega, by omega⟩
  refine mj_T.eq (pc2 := 8) (st2 := [.int (jn z4)]) ?_ rfl rfl rfl rfl
  exact jT.rete rfl rfl rfl ⟨z4, by omega, by omega, rfl⟩
theorem je_120 {D n : Nat} {tm : Int} {h g : mj_H} {K L : Nat → Nat} {R : Nat → Nat → Nat} {p0 : Nat} {p1 : Int} (ty : jTY K L R) (hg : g.length ≤ n) (o : jO K L R g n tm h) (kp0 : K p0 = 19) (rp1 : -2147483648 ≤ p1 ∧ p1 ≤ 2147483647) : mj_Ok (D + 2) 120 [.ref p0, .int (jn p1)] h (jQe h [0] (jVi (-2147483648) 2147483647)) := by
  refine mj_Ok.of (M := mj_m120) (loc := [some (.ref p0), some (.int (jn p1))]) rfl rfl rfl ?_
  iterate 2 refine mj_T.pl rfl rfl rfl rfl ?_
  refine jT.calle rfl rfl (Nat.le_of_ble_eq_true rfl) (Nat.le_of_ble_eq_true rfl) (jrv_of o kp0 (by decide) rfl (by decide) rfl _) rfl (mj_Ok.up (Nat.add_le_add_left (by decide) D) (je_149 (D := D) ty hg o kp0 rp1)) rfl rfl (fun v1 qv1 => ?_)
  obtain ⟨a2, ka2, rfl⟩ := qv1
  refine mj_T.eq (pc2 := 5) (st2 := [.ref a2]) ?_ rfl rfl rfl rfl
  refine jT.calle0 (A := []) rfl rfl (Nat.le_of_ble_eq_true rfl) (Nat.le_of_ble_eq_true rfl) rfl rfl (mj_Ok.up (Nat.add_le_add_left (by decide) D) (jc_163 (D := D) ty hg o ka2)) rfl rfl (fun v3 qv3 => ?_)
  obtain ⟨z4, az4, bz4, rfl⟩ := qv3
  have rz4 : -2147483648 ≤ z4 ∧ z4 ≤ 2147483647 := ⟨by omega, by omega⟩
  refine mj_T.eq (pc2 := 8) (st2 := [.int (jn z4)]) ?_ rfl rfl rfl rfl
  exact jT.rete rfl rfl rfl ⟨z4, by omega, by omega, rfl⟩
theorem je_121 {D n : Nat} {tm : Int} {h g : mj_H} {K L : Nat → Nat} {R : Nat → Nat → Nat} {p0 : Nat} {p1 : Int} {p2 : Int} (ty : jTY K L R) (hg : g.length ≤ n) (o : jO K L R g n tm h) (kp0 : K p0 = 19) (rp1 : -2147483648 ≤ p1 ∧ p1 ≤ 2147483647) (rp2 : -2147483648 ≤ p2 ∧ p2 ≤ 2147483647) : mj_Ok (D + 2) 121 [.ref p0, .int (jn p1), .int (jn p2)] h (jQe h [0] (jVi (-2147483648) 2147483647)) := by
  refine mj_Ok.of (M := mj_m121) (loc := [some (.ref p0), some (.int (jn p1)), some (.int (jn p2)), none, none, none]) rfl rfl rfl ?_
  iterate 2 refine mj_T.pl rfl rfl rfl rfl ?_
  refine jT.calle rfl rfl (Nat.le_of_ble_eq_true rfl) (Nat.le_of_ble_eq_true rfl) (jrv_of o kp0 (by decide) rfl (by decide) rfl _) rfl (mj_Ok.up (Nat.add_le_add_left (by decide) D) (je_149 (D := D) ty hg o kp0 rp1)) rfl rfl (fun v1 qv1 => ?_)
  obtain ⟨a2, ka2, rfl⟩ := qv1
  refine mj_T.eq (pc2 := 5) (st2 := [.ref a2]) ?_ rfl rfl rfl rfl
  refine mj_T.pl (loc' := [some (.ref p0), some (.int (jn p1)), some (.int (jn p2)), some (.ref a2), none, none]) rfl rfl rfl rfl ?_
  refine mj_T.pl rfl rfl rfl rfl ?_
  refine mj_T.pl (loc' := [some (.ref p0), some (.int (jn p1)), some (.int (jn p2)), some (.ref a2), some (.int (jn p2)), none]) rfl rfl rfl rfl ?_
  refine mj_T.pl rfl rfl rfl rfl ?_
  refine jT.alen 2 ty o rfl ka2 (by decide) (by decide) (fun z3 ez3 (az3 : 13 ≤ z3) (bz3 : z3 ≤ 13) => ?_)
  have rz3 : -2147483648 ≤ z3 ∧ z3 ≤ 2147483647 := ⟨by omega, by omega⟩
  refine mj_T.pl rfl rfl rfl rfl ?_
  refine jT.isub rfl (fun z4 rz4 ez4 => ?_)
  replace ez4 := ez4 ⟨by omega, by omega⟩
  refine mj_T.pl (loc' := [some (.ref p0), some (.int (jn p1)), some (.int (jn p2)), some (.ref a2), some (.int (jn p2)), some (.int (jn z4))]) rfl rfl rfl rfl ?_
  have t15_7 : ∀ (k8 : Nat) (x5 : Int) (x6 : Int), (-2147483648 ≤ x5 ∧ x5 ≤ 2147483647) → (-2147483648 ≤ x6 ∧ x6 ≤ 2147483647) → (x6 ≤ z4) → (x6 + 1 : Int).toNat = k8 → mj_T (D + 1) mj_m121 15 [some (.ref p0), some (.int (jn p1)), some (.int (jn p2)), some (.ref a2), some (.int (jn x5)), some (.int (jn x6))] [] h (jQe h [0] (jVi (-2147483648) 2147483647)) := by
    refine jInd (fun k8 ih9 => ?_)
    intro x5 x6 rx5 rx6 ix6 hm10
    refine mj_T.pl rfl rfl rfl rfl ?_
    refine jT.if0 rfl rx6 (fun c17 => ?_) (fun c17 => ?_)
    · have c17 := of_decide_eq_true c17
      exact jT.thre o hg rfl rfl rfl (Nat.le_of_ble_eq_true rfl) rfl
    · have c17 := of_decide_eq_false c17
      refine mj_T.pl rfl rfl rfl rfl ?_
      refine jT.if0 rfl rx5 (fun c22 => ?_) (fun c22 => ?_)
      · have c22 := of_decide_eq_true c22
        exact jT.thre o hg rfl rfl rfl (Nat.le_of_ble_eq_true rfl) rfl
      · have c22 := of_decide_eq_false c22
        iterate 2 refine mj_T.pl rfl rfl rfl rfl ?_
        refine jT.lald o rfl ka2 rx6 ⟨by omega, by omega⟩ (fun z11 jz11 => ?_)
        refine jT.lc 0 rfl rfl ?_
        refine mj_T.lif rfl rfl jz11 ⟨by decide, by decide⟩ (fun c30 => ?_) (fun c30 => ?_)
        · have c30 := of_decide_eq_true c30
          refine jT.iinc rfl rfl (fun z12 rz12 ez12 => ?_)
          replace ez12 := ez12 ⟨by omega, by omega⟩
          refine mj_T.eq (loc2 := [some (.ref p0), some (.int (jn p1)), some (.int (jn p2)), some (.ref a2), some (.int (jn x5)), some (.int (jn z12))]) ?_ rfl rfl rfl rfl
          refine mj_T.pl rfl rfl rfl rfl ?_
          exact ih9 ((z12 + 1 : Int).toNat) (by omega) x5 z12 rx5 rz12 (by omega) rfl
        · have c30 := of_decide_eq_false c30
          refine mj_T.pl rfl rfl rfl rfl ?_
          refine jT.if0 rfl rx5 (fun c36 => ?_) (fun c36 => ?_)
          · have c36 := jne1 c36
            refine jT.iinc rfl rfl (fun z13 rz13 ez13 => ?_)
            replace ez13 := ez13 ⟨by omega, by omega⟩
            refine mj_T.eq (loc2 := [some (.ref p0), some (.int (jn p1)), some (.int (jn p2)), some (.ref a2), some (.int (jn z13)), some (.int (jn x6))]) ?_ rfl rfl rfl rfl
            refine jT.iinc rfl rfl (fun z14 rz14 ez14 => ?_)
            replace ez14 := ez14 ⟨by omega, by omega⟩
            refine mj_T.eq (loc2 := [some (.ref p0), some (.int (jn p1)), some (.int (jn p2)), some (.ref a2), some (.int (jn z13)), some (.int (jn z14))]) ?_ rfl rfl rfl rfl
            refine mj_T.pl rfl rfl rfl rfl ?_
            exact ih9 ((z14 + 1 : Int).toNat) (by omega) z13 z14 rz13 rz14 (by omega) rfl
          · have c36 := jne2 c36
            refine mj_T.pl rfl rfl rfl rfl ?_
            exact jT.rete rfl rfl rfl ⟨x6, by omega, by omega, rfl⟩
  exact t15_7 _ p2 z4 rp2 rz4 (by omega) rfl
theorem je_126 {D n : Nat} {tm : Int} {h g : mj_H} {K L : Nat → Nat} {R : Nat → Nat → Nat} {p0 : Nat} {p1 : Int} {p2 : Int} (ty : jTY K L R) (hg : g.length ≤ n) (o : jO K L R g n tm h) (kp0 : K p0 = 19) (rp1 : -2147483648 ≤ p1 ∧ p1 ≤ 2147483647) (rp2 : -2147483648 ≤ p2 ∧ p2 ≤ 2147483647) : mj_Ok (D + 2) 126 [.ref p0, .int (jn p1), .int (jn p2)] h (jQe h [0] (jVi 0 1)) := by
  refine mj_Ok.of (M := mj_m126) (loc := [some (.ref p0), some (.int (jn p1)), some (.int (jn p2))]) rfl rfl rfl ?_
  iterate 2 refine mj_T.pl rfl rfl rfl rfl ?_
  refine jT.calle rfl rfl (Nat.le_of_ble_eq_true rfl) (Nat.le_of_ble_eq_true rfl) (jrv_of o kp0 (by decide) rfl (by decide) rfl _) rfl (mj_Ok.up (Nat.add_le_add_left (by decide) D) (je_149 (D := D) ty hg o kp0 rp1)) rfl rfl (fun v1 qv1 => ?_)
  obtain ⟨a2, ka2, rfl⟩ := qv1
  refine mj_T.eq (pc2 := 5) (st2 := [.ref a2]) ?_ rfl rfl rfl rfl
  iterate 2 refine mj_T.pl rfl rfl rfl rfl ?_
  refine jT.calle rfl rfl (Nat.le_of_ble_eq_true rfl) (Nat.le_of_ble_eq_true rfl) (jrv_of o kp0 (by decide) rfl (by decide) rfl _) rfl (mj_Ok.up (Nat.add_le_add_left (by decide) D) (je_149 (D := D) ty hg o kp0 rp2)) rfl rfl (fun v3 qv3 => ?_)
  obtain ⟨a4, ka4, rfl⟩ := qv3
  refine mj_T.eq (pc2 := 10) (st2 := [.ref a4, .ref a2]) ?_ rfl rfl rfl rfl
  refine jT.calle0 (A := []) rfl rfl (Nat.le_of_ble_eq_true rfl) (Nat.le_of_ble_eq_true rfl) rfl rfl (mj_Ok.up (Nat.add_le_add_left (by decide) D) (jc_166 (D := D) ty hg o ka2 ka4)) rfl rfl (fun v5 qv5 => ?_)
  obtain ⟨z6, az6, bz6, rfl⟩ := qv5
  have rz6 : -2147483648 ≤ z6 ∧ z6 ≤ 2147483647 := ⟨by omega, by omega⟩
  refine mj_T.eq (pc2 := 13) (st2 := [.int (jn z6)]) ?_ rfl rfl rfl rfl
  exact jT.retbe rfl rfl (by omega) (by omega)
theorem je_129 {D n : Nat} {tm : Int} {h g : mj_H} {K L : Nat → Nat} {R : Nat → Nat → Nat} {p0 : Nat} {p1 : Int} {p2 : Int} (ty : jTY K L R) (hg : g.length ≤ n) (o : jO K L R g n tm h) (kp0 : K p0 = 19) (ap1 : 0 ≤ p1 ∧ p1 ≤ 1) (rp2 : -2147483648 ≤ p2 ∧ p2 ≤ 2147483647) : mj_Ok (D + 3) 129 [.ref p0, .int (jn p1), .int (jn p2)] h (jQe h [0] (jVi (-2147483648) 2147483647)) := by
  have rp1 : -2147483648 ≤ p1 ∧ p1 ≤ 2147483647 := ⟨by omega, by omega⟩
  refine mj_Ok.of (M := mj_m129) (loc := [some (.ref p0), some (.int (jn p1)), some (.int (jn p2)), none]) rfl rfl rfl ?_
  iterate 2 refine mj_T.pl rfl rfl rfl rfl ?_
  refine jT.calle0 (A := []) rfl rfl (Nat.le_of_ble_eq_true rfl) (Nat.le_of_ble_eq_true rfl) (jrv_of o kp0 (by decide) rfl (by decide) rfl _) rfl (mj_Ok.up (Nat.add_le_add_left (by decide) D) (jc_157 (D := D) ty hg o kp0 ⟨by omega, by omega⟩)) rfl rfl (fun v1 qv1 => ?_)
  obtain ⟨a2, ka2, rfl⟩ := qv1
  refine mj_T.eq (pc2 := 5) (st2 := [.ref a2]) ?_ rfl rfl rfl rfl
  refine mj_T.pl (loc' := [some (.ref p0), some (.int (jn p1)), some (.int (jn p2)), some (.ref a2)]) rfl rfl rfl rfl ?_
  refine mj_T.pl rfl rfl rfl rfl ?_
  refine jT.if0 rfl rp2 (fun c7 => ?_) (fun c7 => ?_)
  · have c7 := of_decide_eq_true c7
    exact jT.thre o hg rfl rfl rfl (Nat.le_of_ble_eq_true rfl) rfl
  · have c7 := of_decide_eq_false c7
    iterate 2 refine mj_T.pl rfl rfl rfl rfl ?_
    refine jT.calle0 (A := []) rfl rfl (Nat.le_of_ble_eq_true rfl) (Nat.le_of_ble_eq_true rfl) (jrv_of o ka2 (by decide) rfl (by decide) rfl _) rfl (mj_Ok.up (Nat.add_le_add_left (by decide) D) (jc_98 (D := D) ty hg o ka2)) rfl rfl (fun v3 qv3 => ?_)
    obtain ⟨z4, az4, bz4, rfl⟩ := qv3
    have rz4 : -2147483648 ≤ z4 ∧ z4 ≤ 2147483647 := ⟨by omega, by omega⟩
    refine mj_T.eq (pc2 := 15) (st2 := [.int (jn z4), .int (jn p2)]) ?_ rfl rfl rfl rfl
    refine jT.icmp rfl rp2 rz4 (fun c15 => ?_) (fun c15 => ?_)
    · have c15 := of_decide_eq_true c15
      iterate 2 refine mj_T.pl rfl rfl rfl rfl ?_
      refine jT.calle0 (A := []) rfl rfl (Nat.le_of_ble_eq_true rfl) (Nat.le_of_ble_eq_true rfl) (jrv_of o ka2 (by decide) rfl (by decide) rfl _) rfl (mj_Ok.up (Nat.add_le_add_left (by decide) D) (jc_99 (D := D) ty hg o ka2 rp2)) rfl rfl (fun v5 qv5 => ?_)
      obtain ⟨z6, az6, bz6, rfl⟩ := qv5
      have rz6 : -2147483648 ≤ z6 ∧ z6 ≤ 2147483647 := ⟨by omega, by omega⟩
      refine mj_T.eq (pc2 := 31) (st2 := [.int (jn z6)]) ?_ rfl rfl rfl rfl
      exact jT.rete rfl rfl rfl ⟨z6, by omega, by omega, rfl⟩
    · have c15 := of_decide_eq_false c15
      exact jT.thre o hg rfl rfl rfl (Nat.le_of_ble_eq_true rfl) rfl
theorem je_138 {D n : Nat} {tm : Int} {h g : mj_H} {K L : Nat → Nat} {R : Nat → Nat → Nat} {p0 : Nat} {p1 : Int} {p2 : Int} (ty : jTY K L R) (hg : g.length ≤ n) (o : jO K L R g n tm h) (kp0 : K p0 = 19) (rp1 : -2147483648 ≤ p1 ∧ p1 ≤ 2147483647) (rp2 : -2147483648 ≤ p2 ∧ p2 ≤ 2147483647) : mj_Ok (D + 3) 138 [.ref p0, .int (jn p1), .int (jn p2)] h (jQe h [0, 2] (jVi (-2147483648) 2147483647)) := by
  refine mj_Ok.of (M := mj_m138) (loc := [some (.ref p0), some (.int (jn p1)), some (.int (jn p2)), none, none, none]) rfl rfl rfl ?_
  iterate 2 refine mj_T.pl rfl rfl rfl rfl ?_
  refine jT.calle rfl rfl (Nat.le_of_ble_eq_true rfl) (Nat.le_of_ble_eq_true rfl) (jrv_of o kp0 (by decide) rfl (by decide) rfl _) rfl (mj_Ok.up (Nat.add_le_add_left (by decide) D) (je_149 (D := D) ty hg o kp0 rp1)) rfl rfl (fun v1 qv1 => ?_)
  obtain ⟨a2, ka2, rfl⟩ := qv1
  refine mj_T.eq (pc2 := 5) (st2 := [.ref a2]) ?_ rfl rfl rfl rfl
  refine mj_T.pl (loc' := [some (.ref p0), some (.int (jn p1)), some (.int (jn p2)), some (.ref a2), none, none]) rfl rfl rfl rfl ?_
  refine mj_T.pl rfl rfl rfl rfl ?_
  refine jT.calle rfl rfl (Nat.le_of_ble_eq_true rfl) (Nat.le_of_ble_eq_true rfl) rfl rfl (mj_Ok.up (Nat.add_le_add_left (by decide) D) (je_152 (D := D) ty hg o rp2)) rfl rfl (fun v3 qv3 => ?_)
  obtain rfl : v3 = none := qv3
  refine mj_T.eq (pc2 := 10) (st2 := []) ?_ rfl rfl rfl rfl
  refine mj_T.pl rfl rfl rfl rfl ?_
  refine mj_T.pl (loc' := [some (.ref p0), some (.int (jn p1)), some (.int (jn p2)), some (.ref a2), some (.int (jn 0)), none]) rfl rfl rfl rfl ?_
  refine mj_T.pl rfl rfl rfl rfl ?_
  refine mj_T.pl (loc' := [some (.ref p0), some (.int (jn p1)), some (.int (jn p2)), some (.ref a2), some (.int (jn 0)), some (.int (jn 0))]) rfl rfl rfl rfl ?_
  have t16_6 : ∀ (k7 : Nat) (x4 : Int) (x5 : Int), (-2147483648 ≤ x4 ∧ x4 ≤ 2147483647) → (-2147483648 ≤ x5 ∧ x5 ≤ 2147483647) → (0 ≤ x5) → (2147483647 - x5 : Int).toNat = k7 → mj_T (D + 2) mj_m138 16 [some (.ref p0), some (.int (jn p1)), some (.int (jn p2)), some (.ref a2), some (.int (jn x4)), some (.int (jn x5))] [] h (jQe h [0, 2] (jVi (-2147483648) 2147483647)) := by
    refine jInd (fun k7 ih8 => ?_)
    intro x4 x5 rx4 rx5 ix5 hm9
    refine mj_T.pl rfl rfl rfl rfl ?_
    refine mj_T.pl rfl rfl rfl rfl ?_
    refine jT.icmp rfl rx5 rp2 (fun c19 => ?_) (fun c19 => ?_)
    · have c19 := of_decide_eq_true c19
      refine mj_T.pl rfl rfl rfl rfl ?_
      exact jT.rete rfl rfl rfl ⟨x4, by omega, by omega, rfl⟩
    · have c19 := of_decide_eq_false c19
      iterate 3 refine mj_T.pl rfl rfl rfl rfl ?_
      refine jT.calle0 (A := []) rfl rfl (Nat.le_of_ble_eq_true rfl) (Nat.le_of_ble_eq_true rfl) rfl rfl (mj_Ok.up (Nat.add_le_add_left (by decide) D) (jc_173 (D := D) ty hg o ka2 rx5 rp2)) rfl rfl (fun v10 qv10 => ?_)
      obtain ⟨z11, az11, bz11, rfl⟩ := qv10
      have rz11 : -2147483648 ≤ z11 ∧ z11 ≤ 2147483647 := ⟨by omega, by omega⟩
      refine mj_T.eq (pc2 := 29) (st2 := [.int (jn z11)]) ?_ rfl rfl rfl rfl
      refine jT.if0 rfl rz11 (fun c29 => ?_) (fun c29 => ?_)
      · have c29 := jne1 c29
        refine jT.iinc rfl rfl (fun z12 rz12 ez12 => ?_)
        replace ez12 := ez12 ⟨by omega, by omega⟩
        refine mj_T.eq (loc2 := [some (.ref p0), some (.int (jn p1)), some (.int (jn p2)), some (.ref a2), some (.int (jn x4)), some (.int (jn z12))]) ?_ rfl rfl rfl rfl
        refine mj_T.pl rfl rfl rfl rfl ?_
        exact ih8 ((2147483647 - z12 : Int).toNat) (by omega) x4 z12 rx4 rz12 (by omega) rfl
      · have c29 := jne2 c29
        refine jT.iinc rfl rfl (fun z13 rz13 ez13 => ?_)
        clear ez13
        refine mj_T.eq (loc2 := [some (.ref p0), some (.int (jn p1)), some (.int (jn p2)), some (.ref a2), some (.int (jn z13)), some (.int (jn x5))]) ?_ rfl rfl rfl rfl
        refine jT.iinc rfl rfl (fun z14 rz14 ez14 => ?_)
        replace ez14 := ez14 ⟨by omega, by omega⟩
        refine mj_T.eq (loc2 := [some (.ref p0), some (.int (jn p1)), some (.int (jn p2)), some (.ref a2), some (.int (jn z13)), some (.int (jn z14))]) ?_ rfl rfl rfl rfl
        refine mj_T.pl rfl rfl rfl rfl ?_
        exact ih8 ((2147483647 - z14 : Int).toNat) (by omega) z13 z14 rz13 rz14 (by omega) rfl
  exact t16_6 _ 0 0 ⟨by decide, by decide⟩ ⟨by decide, by decide⟩ (by omega) rfl
theorem je_139 {D n : Nat} {tm : Int} {h g : mj_H} {K L : Nat → Nat} {R : Nat → Nat → Nat} {p0 : Nat} {p1 : Int} {p2 : Int} (ty : jTY K L R) (hg : g.length ≤ n) (o : jO K L R g n tm h) (kp0 : K p0 = 19) (rp1 : -2147483648 ≤ p1 ∧ p1 ≤ 2147483647) (rp2 : -2147483648 ≤ p2 ∧ p2 ≤ 2147483647) : mj_Ok (D + 3) 139 [.ref p0, .int (jn p1), .int (jn p2)] h (jQe h [0, 2, 4] (jVi (-2147483648) 2147483647)) := by
  refine mj_Ok.of (M := mj_m139) (loc := [some (.ref p0), some (.int (jn p1)), some (.int (jn p2)), none, none]) rfl rfl rfl ?_
  iterate 2 refine mj_T.pl rfl rfl rfl rfl ?_
  refine jT.calle rfl rfl (Nat.le_of_ble_eq_true rfl) (Nat.le_of_ble_eq_true rfl) (jrv_of o kp0 (by decide) rfl (by decide) rfl _) rfl (mj_Ok.up (Nat.add_le_add_left (by decide) D) (je_149 (D := D) ty hg o kp0 rp1)) rfl rfl (fun v1 qv1 => ?_)
  obtain ⟨a2, ka2, rfl⟩ := qv1
  refine mj_T.eq (pc2 := 5) (st2 := [.ref a2]) ?_ rfl rfl rfl rfl
  refine mj_T.pl (loc' := [some (.ref p0), some (.int (jn p1)), some (.int (jn p2)), some (.ref a2), none]) rfl rfl rfl rfl ?_
  refine mj_T.pl rfl rfl rfl rfl ?_
  refine jT.calle rfl rfl (Nat.le_of_ble_eq_true rfl) (Nat.le_of_ble_eq_true rfl) rfl rfl (mj_Ok.up (Nat.add_le_add_left (by decide) D) (je_152 (D := D) ty hg o rp2)) rfl rfl (fun v3 qv3 => ?_)
  obtain rfl : v3 = none := qv3
  refine mj_T.eq (pc2 := 10) (st2 := []) ?_ rfl rfl rfl rfl
  refine mj_T.pl rfl rfl rfl rfl ?_
  refine mj_T.pl (loc' := [some (.ref p0), some (.int (jn p1)), some (.int (jn p2)), some (.ref a2), some (.int (jn 0))]) rfl rfl rfl rfl ?_
  have t13_5 : ∀ (k6 : Nat) (x4 : Int), (-2147483648 ≤ x4 ∧ x4 ≤ 2147483647) → (0 ≤ x4) → (2147483647 - x4 : Int).toNat = k6 → mj_T (D + 2) mj_m139 13 [some (.ref p0), some (.int (jn p1)), some (.int (jn p2)), some (.ref a2), some (.int (jn x4))] [] h (jQe h [0, 2, 4] (jVi (-2147483648) 2147483647)) := by
    refine jInd (fun k6 ih7 => ?_)
    intro x4 rx4 ix4 hm8
    refine mj_T.pl rfl rfl rfl rfl ?_
    refine mj_T.pl rfl rfl rfl rfl ?_
    refine jT.icmp rfl rx4 rp2 (fun c16 => ?_) (fun c16 => ?_)
    · have c16 := of_decide_eq_true c16
      exact jT.thre o hg rfl rfl rfl (Nat.le_of_ble_eq_true rfl) rfl
    · have c16 := of_decide_eq_false c16
      iterate 3 refine mj_T.pl rfl rfl rfl rfl ?_
      refine jT.calle0 (A := []) rfl rfl (Nat.le_of_ble_eq_true rfl) (Nat.le_of_ble_eq_true rfl) rfl rfl (mj_Ok.up (Nat.add_le_add_left (by decide) D) (jc_173 (D := D) ty hg o ka2 rx4 rp2)) rfl rfl (fun v9 qv9 => ?_)
      obtain ⟨z10, az10, bz10, rfl⟩ := qv9
      have rz10 : -2147483648 ≤ z10 ∧ z10 ≤ 2147483647 := ⟨by omega, by omega⟩
      refine mj_T.eq (pc2 := 26) (st2 := [.int (jn z10)]) ?_ rfl rfl rfl rfl
      refine jT.if0 rfl rz10 (fun c26 => ?_) (fun c26 => ?_)
      · have c26 := jne1 c26
        refine jT.iinc rfl rfl (fun z11 rz11 ez11 => ?_)
        replace ez11 := ez11 ⟨by omega, by omega⟩
        refine mj_T.eq (loc2 := [some (.ref p0), some (.int (jn p1)), some (.int (jn p2)), some (.ref a2), some (.int (jn z11))]) ?_ rfl rfl rfl rfl
        refine mj_T.pl rfl rfl rfl rfl ?_
        exact ih7 ((2147483647 - z11 : Int).toNat) (by omega) z11 rz11 (by omega) rfl
      · have c26 := jne2 c26
        refine mj_T.pl rfl rfl rfl rfl ?_
        exact jT.rete rfl rfl rfl ⟨x4, by omega, by omega, rfl⟩
  exact t13_5 _ 0 ⟨by decide, by decide⟩ (by omega) rfl
theorem je_145 {D n : Nat} {tm : Int} {h g : mj_H} {K L : Nat → Nat} {R : Nat → Nat → Nat} {p0 : Nat} {p1 : Int} (ty : jTY K L R) (hg : g.length ≤ n) (o : jO K L R g n tm h) (kp0 : K p0 = 19) (rp1 : -2147483648 ≤ p1 ∧ p1 ≤ 2147483647) : mj_Ok (D + 2) 145 [.ref p0, .int (jn p1)] h (jQe h [0] (jVi (-2147483648) 2147483647)) := by
  refine mj_Ok.of (M := mj_m145) (loc := [some (.ref p0), some (.int (jn p1))]) rfl rfl rfl ?_
  refine mj_T.pl rfl rfl rfl rfl ?_
  refine jT.if0 rfl rp1 (fun c1 => ?_) (fun c1 => ?_)
  · have c1 := of_decide_eq_true c1
    exact jT.thre o hg rfl rfl rfl (Nat.le_of_ble_eq_true rfl) rfl
  · have c1 := of_decide_eq_false c1
    iterate 2 refine mj_T.pl rfl rfl rfl rfl ?_
    refine jT.getR 19 117 17 ty o rfl kp0 (by decide) rfl rfl rfl (fun k1 => ?_)
    refine jT.getI 17 5 o rfl k1 (by decide) rfl rfl rfl (fun z2 (az2 : 0 ≤ z2) (bz2 : z2 ≤ 340) fz2 => ?_)
    have rz2 : -2147483648 ≤ z2 ∧ z2 ≤ 2147483647 := ⟨by omega, by omega⟩
    refine jT.icmp rfl rp1 rz2 (fun c12 => ?_) (fun c12 => ?_)
    · have c12 := of_decide_eq_true c12
      refine mj_T.pl rfl rfl rfl rfl ?_
      refine jT.getR 19 117 17 ty o rfl kp0 (by decide) rfl rfl rfl (fun k3 => ?_)
      refine mj_T.pl rfl rfl rfl rfl ?_
      refine jT.calle0 (A := []) rfl rfl (Nat.le_of_ble_eq_true rfl) (Nat.le_of_ble_eq_true rfl) (jrv_of o k3 (by decide) rfl (by decide) rfl _) rfl (mj_Ok.up (Nat.add_le_add_left (by decide) D) (jc_79 (D := D) ty hg o (Or.inl k3) rp1)) rfl rfl (fun v4 qv4 => ?_)
      obtain ⟨z5, az5, bz5, rfl⟩ := qv4
      have rz5 : -2147483648 ≤ z5 ∧ z5 ≤ 2147483647 := ⟨by omega, by omega⟩
      refine mj_T.eq (pc2 := 31) (st2 := [.int (jn z5)]) ?_ rfl rfl rfl rfl
      exact jT.rete rfl rfl rfl ⟨z5, by omega, by omega, rfl⟩
    · have c12 := of_decide_eq_false c12
      exact jT.thre o hg rfl rfl rfl (Nat.le_of_ble_eq_true rfl) rfl
/-- a call that only reads: the benches are as before -/
def rdL (g : mj_H) (n : Nat) (N : Nat → Int) (u : Nat) (H : Nat → Nat → Int) (r : mj_R) : Prop := (∃ (v : Option Value) (h2 : mj_H), cS g n N u H h2 ∧ r = (.inl v, h2)) ∨ (∃ (k : Nat) (h2 : mj_H), cS g (n + 1) N u H h2 ∧ r = (.inr k, h2))
theorem rdL.e {g : mj_H} {n : Nat} {N : Nat → Int} {u : Nat} {H : Nat → Nat → Int} {h : mj_H} (hg : g.length ≤ n) (s : cS g n N u H h) {exc : List Nat} {V : Option Value → Prop} (r : mj_R) (q : jQe h exc V r) : rdL g n N u H r := by
  obtain ⟨r1, r2⟩ := r
  cases r1 with
  | inl v =>
    have e : r2 = h := q.2
    exact Or.inl ⟨v, h, s, by rw [e]⟩
  | inr k =>
    have e : r2 = h ++ [xE] := q.2
    obtain ⟨V0, X, m, b0, d, c⟩ := s
    exact Or.inr ⟨k, _, cS.thr hg m b0 d c, by rw [e]⟩
theorem rdL.p {g : mj_H} {n : Nat} {N : Nat → Int} {u : Nat} {H : Nat → Nat → Int} {h : mj_H} (s : cS g n N u H h) {K L : Nat → Nat} {R : Nat → Nat → Nat} {g0 : mj_H} {n0 : Nat} {tm : Int} {V : Option Value → Prop} (r : mj_R) (q : jQp K L R g0 n0 tm h [] V r) : rdL g n N u H r := by
  obtain ⟨r1, r2⟩ := r
  cases r1 with
  | inl v =>
    have e : r2 = h := q.2
    exact Or.inl ⟨v, h, s, by rw [e]⟩
  | inr k => exact absurd q.1 (by intro y; cases y)
