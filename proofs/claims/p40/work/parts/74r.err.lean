/-! errors: the bytes and the place of the error stay. -/
theorem rc_p {D pc n r1 r2 r3 r4 r5 : Nat} {tm : Int} {M : mj_M} {loc : mj_L} {st : List Value} {g h : mj_H} {Q : mj_R → Prop} {K L : Nat → Nat} {R : Nat → Nat → Nat} {V : Option Value → Prop} {ins : Instr} {as : List Value} (hc : M.2.2.2.2.1 pc = some (ins, r1, r2, r3, r4, r5)) (hk : mj_kind ins r3 = 3) (hl : r2 ≤ st.length) (hcat : mj_cat (st.drop r2) ≤ 8) (hr : mj_recv ins r2 r5 st h = true) (has : (st.take r2).reverse = as) (hcall : mj_Ok D r1 as h (jQp K L R g n tm h [] V)) (k : ∀ v, V v → mj_T D M (pc + 3) loc (v.toList ++ st.drop r2) h Q) : mj_T D M pc loc st h Q :=
  mj_T.call hc hk hl hcat hr has hcall (fun v h' hq => by
    obtain ⟨h1, h2⟩ := hq
    have h2 : h' = h := h2
    subst h2
    exact k v h1) (fun i h' hq => absurd hq.1 List.not_mem_nil)
theorem rq_errors {n : Nat} {tm er : Int} {T : Nat → Int} {g h : mj_H} (hg : g.length ≤ n) (o : jO cK cL cR g n tm h) (x : jcx er tm T h) : mj_Ok 60 148 [.ref 1] h (fun r => jcx er tm T r.2) := by
  have ob : jO cK cL cR g n tm h ∧ jcx er tm T h := ⟨o, x⟩
  refine mj_Ok.of (M := mj_m148) (loc := [some (.ref 1), none, none, none]) rfl rfl rfl ?_
  refine mj_T.pl rfl rfl rfl rfl ?_
  refine mj_T.pl (loc' := [some (.ref 1), some (.int (jn 0)), none, none]) rfl rfl rfl rfl ?_
  refine mj_T.pl rfl rfl rfl rfl ?_
  refine mj_T.pl (loc' := [some (.ref 1), some (.int (jn 0)), some (.int (jn 0)), none]) rfl rfl rfl rfl ?_
  have t4_5 : ∀ (k6 : Nat) (x1 : Int) (x2 : Int) (w3 : Option Value) (h4 : mj_H), (-2147483648 ≤ x1 ∧ x1 ≤ 2147483647) → (-2147483648 ≤ x2 ∧ x2 ≤ 2147483647) → (jO cK cL cR g n tm h4 ∧ jcx er tm T h4) → (0 ≤ x2) → (2147483647 - x2 : Int).toNat = k6 → mj_T 59 mj_m148 4 [some (.ref 1), some (.int (jn x1)), some (.int (jn x2)), w3] [] h4 (fun r => jcx er tm T r.2) := by
    refine jInd (fun k6 ih7 => ?_)
    intro x1 x2 w3 h4 rx1 rx2 oh4 ix2 hm8
    refine mj_T.pl rfl rfl rfl rfl ?_
    refine mj_T.pl rfl rfl rfl rfl ?_
    refine jT.getR 19 110 10 cTY oh4.1 rfl cK4.1 (by decide) rfl rfl rfl (fun k9 => ?_)
    refine jT.getR 10 106 6 cTY oh4.1 rfl k9 (by decide) rfl rfl rfl (fun k10 => ?_)
    refine jT.alen 6 cTY oh4.1 rfl k10 (by decide) (by decide) (fun z11 ez11 (az11 : 6 ≤ z11) (bz11 : z11 ≤ 9) => ?_)
    have rz11 : -2147483648 ≤ z11 ∧ z11 ≤ 2147483647 := ⟨by omega, by omega⟩
    refine jT.icmp rfl rx2 rz11 (fun c13 => ?_) (fun c13 => ?_)
    · have c13 := of_decide_eq_true c13
      refine mj_T.pl rfl rfl rfl rfl ?_
      refine mj_T.pl (loc' := [some (.ref 1), some (.int (jn x1)), some (.int (jn 0)), w3]) rfl rfl rfl rfl ?_
      have t77_15 : ∀ (k16 : Nat) (x12 : Int) (x13 : Int) (h14 : mj_H), (-2147483648 ≤ x12 ∧ x12 ≤ 2147483647) → (-2147483648 ≤ x13 ∧ x13 ≤ 2147483647) → (jO cK cL cR g n tm h14 ∧ jcx er tm T h14) → (0 ≤ x13) → (2147483647 - x13 : Int).toNat = k16 → mj_T 59 mj_m148 77 [some (.ref 1), some (.int (jn x12)), some (.int (jn x13)), w3] [] h14 (fun r => jcx er tm T r.2) := by
        refine jInd (fun k16 ih17 => ?_)
        intro x12 x13 h14 rx12 rx13 oh14 ix13 hm18
        refine mj_T.pl rfl rfl rfl rfl ?_
        refine mj_T.pl rfl rfl rfl rfl ?_
        refine jT.getR 19 110 10 cTY oh14.1 rfl cK4.1 (by decide) rfl rfl rfl (fun k19 => ?_)
        refine jT.getR 10 106 6 cTY oh14.1 rfl k19 (by decide) rfl rfl rfl (fun k20 => ?_)
        refine jT.alen 6 cTY oh14.1 rfl k20 (by decide) (by decide) (fun z21 ez21 (az21 : 6 ≤ z21) (bz21 : z21 ≤ 9) => ?_)
        have rz21 : -2147483648 ≤ z21 ∧ z21 ≤ 2147483647 := ⟨by omega, by omega⟩
        refine jT.icmp rfl rx13 rz21 (fun c86 => ?_) (fun c86 => ?_)
        · have c86 := of_decide_eq_true c86
          refine mj_T.pl rfl rfl rfl rfl ?_
          exact mj_T.ret rfl rfl rfl oh14.2
        · have c86 := of_decide_eq_false c86
          refine mj_T.pl rfl rfl rfl rfl ?_
          refine jT.getR 19 117 17 cTY oh14.1 rfl cK4.1 (by decide) rfl rfl rfl (fun k22 => ?_)
          refine mj_T.pl rfl rfl rfl rfl ?_
          refine jT.getR 19 110 10 cTY oh14.1 rfl cK4.1 (by decide) rfl rfl rfl (fun k23 => ?_)
          refine jT.getR 10 106 6 cTY oh14.1 rfl k23 (by decide) rfl rfl rfl (fun k24 => ?_)
          refine mj_T.pl rfl rfl rfl rfl ?_
          refine jT.aald 6 2 cTY oh14.1 rfl k24 (by decide) (by decide) rfl rx13 ⟨by omega, by omega⟩ (fun k25 => ?_)
          refine mj_T.call rfl rfl (Nat.le_of_ble_eq_true rfl) (Nat.le_of_ble_eq_true rfl) (jrv_of oh14.1 k22 (by decide) rfl (by decide) rfl _) rfl (mj_Ok.up (by decide) ((jc_82 (D := 0) cTY hg oh14.1 k22 k25).and (rq_setRow (D := 0) (Or.inr (ck1 6 (by decide))) oh14.1 k25))) (fun v26 h27 hq => ?_) (fun i' hi' hq => absurd hq.1.1 List.not_mem_nil)
          obtain ⟨⟨qv26, ox⟩, xx⟩ := hq
          have oh27 : jO cK cL cR g n tm h27 ∧ jcx er tm T h27 := ⟨ox, oh14.2.same xx.1 xx.2⟩
          obtain rfl : v26 = none := qv26
          refine mj_T.eq (pc2 := 105) (st2 := []) ?_ rfl rfl rfl rfl
          refine mj_T.pl rfl rfl rfl rfl ?_
          refine jT.getR 19 114 14 cTY oh27.1 rfl cK4.1 (by decide) rfl rfl rfl (fun k28 => ?_)
          refine mj_T.pl rfl rfl rfl rfl ?_
          refine jT.getR 19 117 17 cTY oh27.1 rfl cK4.1 (by decide) rfl rfl rfl (fun k29 => ?_)
          refine mj_T.call rfl rfl (Nat.le_of_ble_eq_true rfl) (Nat.le_of_ble_eq_true rfl) (jrv_of oh27.1 k28 (by decide) rfl (by decide) rfl _) rfl (mj_Ok.up (by decide) ((jc_46 (D := 0) cTY hg oh27.1 k28 (Or.inl k29)).qt rfl)) (fun v30 h31 hq => ?_) (fun i' hi' hq => absurd hq.1.1 List.not_mem_nil)
          obtain ⟨⟨qv30, ox⟩, xx⟩ := hq
          have oh31 : jO cK cL cR g n tm h31 ∧ jcx er tm T h31 := ⟨ox, oh27.2.qt xx⟩
          obtain ⟨z32, az32, bz32, rfl⟩ := qv30
          have rz32 : -2147483648 ≤ z32 ∧ z32 ≤ 2147483647 := ⟨by omega, by omega⟩
          refine mj_T.eq (pc2 := 116) (st2 := [.int (jn z32)]) ?_ rfl rfl rfl rfl
          refine jT.if0 rfl rz32 (fun c116 => ?_) (fun c116 => ?_)
          · have c116 := of_decide_eq_true c116
            refine jT.iinc rfl rfl (fun z33 rz33 ez33 => ?_)
            clear ez33
            refine mj_T.eq (loc2 := [some (.ref 1), some (.int (jn z33)), some (.int (jn x13)), w3]) ?_ rfl rfl rfl rfl
            refine jT.iinc rfl rfl (fun z34 rz34 ez34 => ?_)
            replace ez34 := ez34 ⟨by omega, by omega⟩
            refine mj_T.eq (loc2 := [some (.ref 1), some (.int (jn z33)), some (.int (jn z34)), w3]) ?_ rfl rfl rfl rfl
            refine mj_T.pl rfl rfl rfl rfl ?_
            exact ih17 ((2147483647 - z34 : Int).toNat) (by omega) z33 z34 h31 rz33 rz34 oh31 (by omega) rfl
          · have c116 := of_decide_eq_false c116
            refine mj_T.pl rfl rfl rfl rfl ?_
            refine jT.getR 19 114 14 cTY oh31.1 rfl cK4.1 (by decide) rfl rfl rfl (fun k35 => ?_)
            refine jT.getI 14 2 oh31.1 rfl k35 (by decide) rfl rfl rfl (fun z36 (az36 : 0 ≤ z36) (bz36 : z36 ≤ 1) fz36 => ?_)
            have rz36 : -2147483648 ≤ z36 ∧ z36 ≤ 2147483647 := ⟨by omega, by omega⟩
            refine jT.if0 rfl rz36 (fun c126 => ?_) (fun c126 => ?_)
            · have c126 := jne1 c126
              refine jT.iinc rfl rfl (fun z37 rz37 ez37 => ?_)
              clear ez37
              refine mj_T.eq (loc2 := [some (.ref 1), some (.int (jn z37)), some (.int (jn x13)), w3]) ?_ rfl rfl rfl rfl
              refine jT.iinc rfl rfl (fun z38 rz38 ez38 => ?_)
              replace ez38 := ez38 ⟨by omega, by omega⟩
              refine mj_T.eq (loc2 := [some (.ref 1), some (.int (jn z37)), some (.int (jn z38)), w3]) ?_ rfl rfl rfl rfl
              refine mj_T.pl rfl rfl rfl rfl ?_
              exact ih17 ((2147483647 - z38 : Int).toNat) (by omega) z37 z38 h31 rz37 rz38 oh31 (by omega) rfl
            · have c126 := jne2 c126
              refine mj_T.pl rfl rfl rfl rfl ?_
              refine jT.getR 19 114 14 cTY oh31.1 rfl cK4.1 (by decide) rfl rfl rfl (fun k39 => ?_)
              refine rc_p rfl rfl (Nat.le_of_ble_eq_true rfl) (Nat.le_of_ble_eq_true rfl) (jrv_of oh31.1 k39 (by decide) rfl (by decide) rfl _) rfl (mj_Ok.up (by decide) (jc_47 (D := 0) cTY hg oh31.1 k39)) (fun v40 qv40 => ?_)
              obtain ⟨a41, ka41, rfl⟩ := qv40
              refine mj_T.eq (pc2 := 136) (st2 := [.ref a41]) ?_ rfl rfl rfl rfl
              refine mj_T.pl rfl rfl rfl rfl ?_
              refine jT.getR 19 110 10 cTY oh31.1 rfl cK4.1 (by decide) rfl rfl rfl (fun k42 => ?_)
              refine jT.getR 10 106 6 cTY oh31.1 rfl k42 (by decide) rfl rfl rfl (fun k43 => ?_)
              refine mj_T.pl rfl rfl rfl rfl ?_
              refine jT.aald 6 2 cTY oh31.1 rfl k43 (by decide) (by decide) rfl rx13 ⟨by omega, by omega⟩ (fun k44 => ?_)
              refine rc_p rfl rfl (Nat.le_of_ble_eq_true rfl) (Nat.le_of_ble_eq_true rfl) rfl rfl (mj_Ok.up (by decide) (jc_166 (D := 0) cTY hg oh31.1 ka41 k44)) (fun v45 qv45 => ?_)
              obtain ⟨z46, az46, bz46, rfl⟩ := qv45
              have rz46 : -2147483648 ≤ z46 ∧ z46 ≤ 2147483647 := ⟨by omega, by omega⟩
              refine mj_T.eq (pc2 := 148) (st2 := [.int (jn z46)]) ?_ rfl rfl rfl rfl
              refine jT.if0 rfl rz46 (fun c148 => ?_) (fun c148 => ?_)
              · have c148 := jne1 c148
                refine jT.iinc rfl rfl (fun z47 rz47 ez47 => ?_)
                replace ez47 := ez47 ⟨by omega, by omega⟩
                refine mj_T.eq (loc2 := [some (.ref 1), some (.int (jn x12)), some (.int (jn z47)), w3]) ?_ rfl rfl rfl rfl
                refine mj_T.pl rfl rfl rfl rfl ?_
                exact ih17 ((2147483647 - z47 : Int).toNat) (by omega) x12 z47 h31 rx12 rz47 oh31 (by omega) rfl
              · have c148 := jne2 c148
                refine jT.iinc rfl rfl (fun z48 rz48 ez48 => ?_)
                clear ez48
                refine mj_T.eq (loc2 := [some (.ref 1), some (.int (jn z48)), some (.int (jn x13)), w3]) ?_ rfl rfl rfl rfl
                refine jT.iinc rfl rfl (fun z49 rz49 ez49 => ?_)
                replace ez49 := ez49 ⟨by omega, by omega⟩
                refine mj_T.eq (loc2 := [some (.ref 1), some (.int (jn z48)), some (.int (jn z49)), w3]) ?_ rfl rfl rfl rfl
                refine mj_T.pl rfl rfl rfl rfl ?_
                exact ih17 ((2147483647 - z49 : Int).toNat) (by omega) z48 z49 h31 rz48 rz49 oh31 (by omega) rfl
      exact t77_15 _ x1 0 h4 rx1 ⟨by decide, by decide⟩ oh4 (by omega) rfl
    · have c13 := of_decide_eq_false c13
      iterate 2 refine mj_T.pl rfl rfl rfl rfl ?_
      refine jT.iadd rfl (fun z50 rz50 ez50 => ?_)
      replace ez50 := ez50 ⟨by omega, by omega⟩
      refine mj_T.pl (loc' := [some (.ref 1), some (.int (jn x1)), some (.int (jn x2)), some (.int (jn z50))]) rfl rfl rfl rfl ?_
      have t20_54 : ∀ (k55 : Nat) (x51 : Int) (x52 : Int) (h53 : mj_H), (-2147483648 ≤ x51 ∧ x51 ≤ 2147483647) → (-2147483648 ≤ x52 ∧ x52 ≤ 2147483647) → (jO cK cL cR g n tm h53 ∧ jcx er tm T h53) → (z50 ≤ x52) → (2147483647 - x52 : Int).toNat = k55 → mj_T 59 mj_m148 20 [some (.ref 1), some (.int (jn x51)), some (.int (jn x2)), some (.int (jn x52))] [] h53 (fun r => jcx er tm T r.2) := by
        refine jInd (fun k55 ih56 => ?_)
        intro x51 x52 h53 rx51 rx52 oh53 ix52 hm57
        refine mj_T.pl rfl rfl rfl rfl ?_
        refine mj_T.pl rfl rfl rfl rfl ?_
        refine jT.getR 19 110 10 cTY oh53.1 rfl cK4.1 (by decide) rfl rfl rfl (fun k58 => ?_)
        refine jT.getR 10 106 6 cTY oh53.1 rfl k58 (by decide) rfl rfl rfl (fun k59 => ?_)
        refine jT.alen 6 cTY oh53.1 rfl k59 (by decide) (by decide) (fun z60 ez60 (az60 : 6 ≤ z60) (bz60 : z60 ≤ 9) => ?_)
        have rz60 : -2147483648 ≤ z60 ∧ z60 ≤ 2147483647 := ⟨by omega, by omega⟩
        refine jT.icmp rfl rx52 rz60 (fun c29 => ?_) (fun c29 => ?_)
        · have c29 := of_decide_eq_true c29
          refine jT.iinc rfl rfl (fun z61 rz61 ez61 => ?_)
          replace ez61 := ez61 ⟨by omega, by omega⟩
          refine mj_T.eq (loc2 := [some (.ref 1), some (.int (jn x51)), some (.int (jn z61)), some (.int (jn x52))]) ?_ rfl rfl rfl rfl
          refine mj_T.pl rfl rfl rfl rfl ?_
          exact ih7 ((2147483647 - z61 : Int).toNat) (by omega) x51 z61 (some (.int (jn x52))) h53 rx51 rz61 oh53 (by omega) rfl
        · have c29 := of_decide_eq_false c29
          refine mj_T.pl rfl rfl rfl rfl ?_
          refine jT.getR 19 111 11 cTY oh53.1 rfl cK4.1 (by decide) rfl rfl rfl (fun k62 => ?_)
          refine mj_T.pl rfl rfl rfl rfl ?_
          refine jT.getR 19 110 10 cTY oh53.1 rfl cK4.1 (by decide) rfl rfl rfl (fun k63 => ?_)
          refine jT.getR 10 106 6 cTY oh53.1 rfl k63 (by decide) rfl rfl rfl (fun k64 => ?_)
          refine mj_T.pl rfl rfl rfl rfl ?_
          refine jT.aald 6 2 cTY oh53.1 rfl k64 (by decide) (by decide) rfl rx2 ⟨by omega, by omega⟩ (fun k65 => ?_)
          refine mj_T.pl rfl rfl rfl rfl ?_
          refine jT.getR 19 110 10 cTY oh53.1 rfl cK4.1 (by decide) rfl rfl rfl (fun k66 => ?_)
          refine jT.getR 10 106 6 cTY oh53.1 rfl k66 (by decide) rfl rfl rfl (fun k67 => ?_)
          refine mj_T.pl rfl rfl rfl rfl ?_
          refine jT.aald 6 2 cTY oh53.1 rfl k67 (by decide) (by decide) rfl rx52 ⟨by omega, by omega⟩ (fun k68 => ?_)
          refine mj_T.call rfl rfl (Nat.le_of_ble_eq_true rfl) (Nat.le_of_ble_eq_true rfl) (jrv_of oh53.1 k62 (by decide) rfl (by decide) rfl _) rfl (mj_Ok.up (by decide) ((jc_15 (D := 0) cTY hg oh53.1 k62 k65 k68).qt rfl)) (fun v69 h70 hq => ?_) (fun i' hi' hq => absurd hq.1.1 List.not_mem_nil)
          obtain ⟨⟨qv69, ox⟩, xx⟩ := hq
          have oh70 : jO cK cL cR g n tm h70 ∧ jcx er tm T h70 := ⟨ox, oh53.2.qt xx⟩
          obtain ⟨z71, az71, bz71, rfl⟩ := qv69
          have rz71 : -2147483648 ≤ z71 ∧ z71 ≤ 2147483647 := ⟨by omega, by omega⟩
          refine mj_T.eq (pc2 := 57) (st2 := [.int (jn z71)]) ?_ rfl rfl rfl rfl
          refine jT.if0 rfl rz71 (fun c57 => ?_) (fun c57 => ?_)
          · have c57 := jne1 c57
            refine jT.iinc rfl rfl (fun z72 rz72 ez72 => ?_)
            replace ez72 := ez72 ⟨by omega, by omega⟩
            refine mj_T.eq (loc2 := [some (.ref 1), some (.int (jn x51)), some (.int (jn x2)), some (.int (jn z72))]) ?_ rfl rfl rfl rfl
            refine mj_T.pl rfl rfl rfl rfl ?_
            exact ih56 ((2147483647 - z72 : Int).toNat) (by omega) x51 z72 h70 rx51 rz72 oh70 (by omega) rfl
          · have c57 := jne2 c57
            refine jT.iinc rfl rfl (fun z73 rz73 ez73 => ?_)
            clear ez73
            refine mj_T.eq (loc2 := [some (.ref 1), some (.int (jn z73)), some (.int (jn x2)), some (.int (jn x52))]) ?_ rfl rfl rfl rfl
            refine jT.iinc rfl rfl (fun z74 rz74 ez74 => ?_)
            replace ez74 := ez74 ⟨by omega, by omega⟩
            refine mj_T.eq (loc2 := [some (.ref 1), some (.int (jn z73)), some (.int (jn x2)), some (.int (jn z74))]) ?_ rfl rfl rfl rfl
            refine mj_T.pl rfl rfl rfl rfl ?_
            exact ih56 ((2147483647 - z74 : Int).toNat) (by omega) z73 z74 h70 rz73 rz74 oh70 (by omega) rfl
      exact t20_54 _ x1 z50 h4 rx1 rz50 oh4 (by omega) rfl
  exact t4_5 _ 0 0 none h ⟨by decide, by decide⟩ ⟨by decide, by decide⟩ ob (by omega) rfl

