/-! The class's reader over the memory: products and sums. -/
section JRF2t
variable {D tm n tx : Nat} {T : Nat → Int} {g h h' : mj_H} {a e t : Int} {X0 Y : Nat → Nat → Int} {Z : Nat → Prop}
/-- check (51): what is too great becomes 0 -/
theorem rt_check {r : Nat} {ok : Prop} {w : Nat → Int} {zz : Int} (kr : isRw r) (ht : t = 0 ∨ t = 1) (s : (ok ∧ zz = 1 ∧ rMt g n tx X0 Z (rwu Y r w) t a e h) ∨ (¬ ok ∧ zz = 0 ∧ rMt g n tx X0 (fun c => c ≠ r ∧ Z c) Y t a e h)) : mj_Ok (D + 2) 51 [.ref 455, .int (jn zz), .ref r] h (fun z => ∃ h2, z = (.inl none, h2) ∧ ((ok ∧ rMt g n tx X0 Z (rwu Y r w) t a e h2) ∨ (¬ ok ∧ rMt g n tx X0 Z (rwu Y r (fun _ => 0)) 1 a e h2))) := by
  refine mj_Ok.of (M := mj_m51) (loc := [some (.ref 455), some (.int (jn zz)), some (.ref r)]) rfl rfl rfl ?_
  refine mj_T.pl rfl rfl rfl rfl ?_
  rcases s with ⟨o, rfl, s⟩ | ⟨o, rfl, s⟩
  · refine mj_T.if0 (a := 1) rfl ⟨by decide, by decide⟩ (fun _ => ?_) (fun c => by simp [jc] at c)
    exact mj_T.ret rfl rfl rfl ⟨h, rfl, Or.inl ⟨o, s⟩⟩
  · refine mj_T.if0 (a := 0) rfl ⟨by decide, by decide⟩ (fun c => by simp [jc] at c) (fun _ => ?_)
    iterate 2 refine mj_T.pl rfl rfl rfl rfl ?_
    refine rt_p4 (b := 1) (Or.inr rfl) s rfl (fun h1 s1 => ?_)
    refine mj_T.pl rfl rfl rfl rfl ?_
    refine mj_T.call rfl rfl (Nat.le_of_ble_eq_true rfl) (Nat.le_of_ble_eq_true rfl) rfl rfl (rt_165 (D := D) (Z' := Z) s1 kr (fun c hc => by
      by_cases q : c = r
      · exact Or.inl q
      · exact Or.inr ⟨q, hc⟩)) (fun v h2 hq => ?_) (fun i h2 hq => by obtain ⟨_, _, hq⟩ := hq; cases hq)
    obtain ⟨_, s2, hq⟩ := hq
    cases hq
    exact mj_T.ret rfl rfl rfl ⟨h2, rfl, Or.inr ⟨o, s2⟩⟩
theorem rMt.rv19 {Z : Nat → Prop} {r2 : Nat} {st : List Value} (s : rMt g n tx X0 Z Y t a e h) (hr : 1 ≤ r2) (hd : st.drop (r2 - 1) = .ref 19 :: st.drop r2) : ∀ m, mj_recv (.invokevirtual m) r2 1 st h = true := by
  intro m
  obtain ⟨V, X, mm, _⟩ := s
  exact mV_of mm 11 cq_456.2.2.2.2.2.1 (by decide) rfl hr hd m
theorem rt_product_loop {d E a0 : Nat} (hB : bXt tx X0 tm T) (ht : tm ≤ 340) (hT : ∀ j : Nat, j < tm → 0 ≤ T j ∧ T j ≤ 255) (hd : d ≤ 8)
    (ih : ∀ (f p : Nat) (h : mj_H) (res : Bool × Nat) (Y : Nat → Nat → Int) (t : Int), (t = 0 ∨ t = 1) → p ≤ tm → rpr0 T tm f 0 d p = some res → rMt g n tx X0 (zkF (8 - d)) Y t (p : Int) (-1) h → mj_Ok (E + 6) 52 [.ref 455, .int (jn (8 - (d : Int)))] h (rQt T tm g n tx X0 (zkG (8 - d)) p res rV (UF d Y t (zv0 T tm f 0 d p none 1)))) (Y0 : Nat → Nat → Int) (t0 : Int) : ∀ (f p i : Nat) (h : mj_H) (res : Bool × Nat) (l4 : Option Value) (Y : Nat → Nat → Int) (t : Int) (P : Option pz_P), U0 P t0 t (Y (467 + (8 - d))) → (∀ c, c ≤ 457 + (8 - d) ∨ (467 ≤ c ∧ c < 467 + (8 - d)) → Y c = Y0 c) → p ≤ tm → i ≤ p → a0 ≤ p → rpr0 T tm f 1 d p = some res → rMt g n tx X0 (zkF (8 - d)) Y t (p : Int) (-1) h → mj_T (E + 6) mj_m50 19 [some (.ref 455), some (.int (jn (8 - (d : Int)))), some (.ref (467 + (8 - d))), some (.int (jn (i : Int))), l4] [] h (rQt T tm g n tx X0 (zkF (8 - d)) a0 res rV0 (UP d Y0 t0 (zv0 T tm f 1 d p P 1))) := by
  intro f
  induction f with
  | zero => intro p i h res l4 Y t P _ _ _ _ _ hf; cases hf
  | succ f ihf =>
    intro p i h res l4 Y t P hu hfr hp hi ha hf s
    have b := s.jBt hB
    have kr : isRw (467 + (8 - d)) := isRw.p (by omega)
    have eVal : zv0 T tm (f + 1) 1 d p P 1 = match rpr0 T tm f 0 d p with | some (true, c) => (match rtk T tm 42 c with | none => zvm P (zv0 T tm f 0 d p none 1) | some e => zv0 T tm f 1 d e (zvm P (zv0 T tm f 0 d p none 1)) 1) | _ => none := rfl
    unfold rpr0 at hf
    iterate 2 refine mj_T.pl rfl rfl rfl rfl ?_
    refine rt_g s rfl rfl ?_
    refine mj_T.gfl rfl b.1 rfl ?_
    refine mj_T.icmp (a := (i : Int)) (b := (tm : Int)) rfl ⟨by omega, by omega⟩ ⟨by omega, by omega⟩ (fun c => ?_) (fun _ => ?_)
    · have c := of_decide_eq_true c
      omega
    iterate 2 refine mj_T.pl rfl rfl rfl rfl ?_
    cases hfa : rpr0 T tm f 0 d p with
    | none => rw [hfa] at hf; cases hf
    | some rs =>
      rw [hfa] at hf eVal
      refine mj_T.call rfl rfl (Nat.le_of_ble_eq_true rfl) (Nat.le_of_ble_eq_true rfl) (s.rv (by decide) rfl _) rfl (ih f p h rs Y t hu.t hp hfa s) (fun v h4 hq => ?_) (fun i h4 hq => by obtain ⟨_, _, _, _, _, hq, _⟩ := hq; cases hq)
      obtain ⟨v2, c2, h5, Y4, t4, hq, ⟨z, hz, hv⟩, c3, c4⟩ := hq
      subst hv
      cases hq
      refine mj_T.pl (loc' := [some (.ref 455), some (.int (jn (8 - (d : Int)))), some (.ref (467 + (8 - d))), some (.int (jn (i : Int))), some (.int (jn z))]) rfl rfl rfl rfl ?_
      refine mj_T.pl rfl rfl rfl rfl ?_
      obtain ⟨ok, x⟩ := rs
      rcases c4 with ⟨e1, e2, e3, s4, hU⟩ | ⟨e1, e2, s4⟩
      rotate_left
      · have e1 : ok = false := e1
        subst e1
        simp only at hf e2 s4
        cases hf
        refine rt_g s4 rfl rfl ?_
        refine mj_T.pl rfl rfl rfl rfl ?_
        refine mj_T.icmp (a := (x : Int)) (b := -1) rfl ⟨by omega, by omega⟩ ⟨by decide, by decide⟩ (fun c => ?_) (fun _ => ?_)
        · simp only [jc, decide_eq_true_eq] at c
          omega
        · exact mj_T.ret rfl rfl rfl ⟨_, c2, _, _, _, rfl, rfl, c3, Or.inr ⟨rfl, e2, s4⟩⟩
      have e1 : ok = true := e1
      have e2 : c2 = x := e2
      subst e1 e2
      obtain ⟨z', w, hz', hzb, hzF, hUw, hUf⟩ := hU
      cases (show z' = z by
        injection hz' with q
        injection q with q
        exact jn_inj ⟨by omega, by omega⟩ ⟨by omega, by omega⟩ q.symm)
      simp only at hf eVal
      refine rt_g s4 rfl rfl ?_
      refine mj_T.pl rfl rfl rfl rfl ?_
      refine mj_T.icmp (a := -1) (b := -1) rfl ⟨by decide, by decide⟩ ⟨by decide, by decide⟩ (fun _ => ?_) (fun c => absurd c (by decide))
      -- the product so far, times the factor
      have t77 : ∀ (Y6 : Nat → Nat → Int) (t6 : Int) (h6 : mj_H), U0 (zv0 T tm f 0 d p none 1) t t6 (Y6 476) → Y6 (467 + (8 - d)) = Y (467 + (8 - d)) → (∀ c, c ≤ 457 + (8 - d) ∨ (467 ≤ c ∧ c < 467 + (8 - d)) → Y6 c = Y0 c) → rMt g n tx X0 (zkG (8 - d)) Y6 t6 (c2 : Int) (-1) h6 → mj_T (E + 6) mj_m50 77 [some (.ref 455), some (.int (jn (8 - (d : Int)))), some (.ref (467 + (8 - d))), some (.int (jn (i : Int))), some (.int (jn z))] [] h6 (rQt T tm g n tx X0 (zkF (8 - d)) a0 res rV0 (UP d Y0 t0 (zv0 T tm (f + 1) 1 d p P 1))) := fun Y6 t6 h6 u6 f6 r6 s6 => by
        iterate 2 refine mj_T.pl rfl rfl rfl rfl ?_
        refine rt_g s6 rfl rfl ?_
        iterate 2 refine mj_T.pl rfl rfl rfl rfl ?_
        refine rt_g s6 rfl rfl ?_
        refine mj_T.pl rfl rfl rfl rfl ?_
        refine mj_T.call rfl rfl (Nat.le_of_ble_eq_true rfl) (Nat.le_of_ble_eq_true rfl) (s6.rv19 (by decide) rfl _) rfl (mj_Ok.up (by omega) (rt_11 (D := 0) s6 (show zkG (8 - d) (467 + (8 - d)) from Or.inl (Or.inr ⟨by omega, by omega⟩)) (show zkG (8 - d) 476 from Or.inr rfl))) (fun v h7 hq => ?_) (fun i h7 hq => by obtain ⟨_, ⟨_, _, hq⟩ | ⟨_, _, hq⟩⟩ := hq <;> cases hq)
        obtain ⟨zz, hzz, s7⟩ : ∃ zz : Int, v = some (.int (jn zz)) ∧ ((fit13 (pz_mul (rw13 (Y6 (467 + (8 - d)))) (rw13 (Y6 476))) ∧ zz = 1 ∧ rMt g n tx X0 (zkG (8 - d)) (rwu Y6 (467 + (8 - d)) (pz_mul (rw13 (Y6 (467 + (8 - d)))) (rw13 (Y6 476)))) t6 (c2 : Int) (-1) h7) ∨ (¬ fit13 (pz_mul (rw13 (Y6 (467 + (8 - d)))) (rw13 (Y6 476))) ∧ zz = 0 ∧ rMt g n tx X0 (fun c => c ≠ 467 + (8 - d) ∧ zkG (8 - d) c) Y6 t6 (c2 : Int) (-1) h7)) := by
          obtain ⟨h2, ⟨o, s7, hq⟩ | ⟨o, s7, hq⟩⟩ := hq <;> cases hq
          · exact ⟨1, rfl, Or.inl ⟨o, rfl, s7⟩⟩
          · exact ⟨0, rfl, Or.inr ⟨o, rfl, s7⟩⟩
        subst hzz
        refine mj_T.eq (st2 := [.int (jn zz), .ref 455]) ?_ rfl rfl rfl rfl
        refine mj_T.pl rfl rfl rfl rfl ?_
        refine mj_T.call rfl rfl (Nat.le_of_ble_eq_true rfl) (Nat.le_of_ble_eq_true rfl) (by rcases s7 with ⟨_, _, q⟩ | ⟨_, _, q⟩ <;> exact q.rv (by decide) rfl _) rfl (mj_Ok.up (by omega) (rt_check (D := 0) kr u6.t s7)) (fun v h8 hq => ?_) (fun i h8 hq => by obtain ⟨_, hq, _⟩ := hq; cases hq)
        obtain ⟨_, hq, s8⟩ := hq
        cases hq
        obtain ⟨Y8, t8, s8, u8, f8⟩ : ∃ (Y8 : Nat → Nat → Int) (t8 : Int), rMt g n tx X0 (zkG (8 - d)) Y8 t8 (c2 : Int) (-1) h8 ∧ U0 (zvm P (zv0 T tm f 0 d p none 1)) t0 t8 (Y8 (467 + (8 - d))) ∧ ∀ c, c ≤ 457 + (8 - d) ∨ (467 ≤ c ∧ c < 467 + (8 - d)) → Y8 c = Y0 c := by
          have hu2 : U0 P t0 t (Y6 (467 + (8 - d))) := by rw [f6]; exact hu
          have hm := hu2.mul u6
          have ff : ∀ w : Nat → Int, ∀ c, c ≤ 457 + (8 - d) ∨ (467 ≤ c ∧ c < 467 + (8 - d)) → rwu Y6 (467 + (8 - d)) w c = Y0 c := fun w c hc => by rw [rwu_ne _ _ (by omega), r6 c hc]
          rcases s8 with ⟨o, s8⟩ | ⟨o, s8⟩
          · rcases hm with ⟨A, B, m1, m2, m3, m4, m5⟩ | ⟨m1, m2⟩
            · rw [m4, m5] at o s8
              exact ⟨_, _, s8, ⟨hu.1, Or.inl ⟨pz_mul A B, by rw [m1, m2]; exact zvf_y o, o, m3, fun j _ => by rw [rwu_at]⟩⟩, ff _⟩
            · exact ⟨_, _, s8, ⟨hu.1, Or.inr ⟨m1, m2⟩⟩, ff _⟩
          · refine ⟨_, _, s8, ⟨hu.1, Or.inr ⟨?_, rfl⟩⟩, ff _⟩
            rcases hm with ⟨A, B, m1, m2, m3, m4, m5⟩ | ⟨m1, m2⟩
            · rw [m4, m5] at o
              rw [m1, m2]
              exact zvf_n o
            · exact m1
        iterate 2 refine mj_T.pl rfl rfl rfl rfl ?_
        refine mj_T.call rfl rfl (Nat.le_of_ble_eq_true rfl) (Nat.le_of_ble_eq_true rfl) (s8.rv (by decide) rfl _) rfl (mj_Ok.up (by omega) (rt_takes (D := 0) (c := 42) ⟨by decide, by decide⟩ hB ht hT c3 s8)) (fun v h9 hq => ?_) (fun i h9 hq => by rcases hq with ⟨_, _, _, _, hq⟩ | ⟨_, _, _, hq⟩ <;> cases hq)
        rcases hq with ⟨b9, _, ⟨g1, g2, g3⟩, s9, hq⟩ | ⟨_, g1, s9, hq⟩
        · cases hq
          rw [g1] at hf eVal
          rw [eVal]
          refine mj_T.if0 (a := 1) rfl ⟨by decide, by decide⟩ (fun _ => ?_) (fun hc2 => by simp [jc] at hc2)
          refine mj_T.iinc (a := (i : Int)) rfl rfl ?_
          refine mj_T.eq (loc2 := [some (.ref 455), some (.int (jn (8 - (d : Int)))), some (.ref (467 + (8 - d))), some (.int (jn ((i + 1 : Nat) : Int))), some (.int (jn z))]) ?_ rfl (by rw [show ((i + 1 : Nat) : Int) = (i : Int) + 1 by omega]; rfl) rfl rfl
          refine mj_T.pl rfl rfl rfl rfl ?_
          exact ihf b9 (i + 1) h9 res _ Y8 t8 _ u8 f8 g2 (by omega) (by omega) hf (s9.mono (fun c hc => Or.inl hc))
        · cases hq
          rw [g1] at hf eVal
          cases hf
          have hl9 := rskp_le (T := T) c3
          have hg9 := rskp_ge (T := T) (tm := tm) c2
          refine mj_T.if0 (a := 0) rfl ⟨by decide, by decide⟩ (fun hc2 => by simp [jc] at hc2) (fun _ => ?_)
          exact mj_T.ret rfl rfl rfl ⟨_, rskp T tm c2, h9, Y8, t8, rfl, rfl, hl9, Or.inl ⟨rfl, rfl, by omega, s9.mono (fun c hc => Or.inl hc), by rw [eVal]; exact ⟨u8, f8⟩⟩⟩
      iterate 2 refine mj_T.pl rfl rfl rfl rfl ?_
      refine mj_T.icmp (a := z) (b := -1) rfl ⟨by omega, by omega⟩ ⟨by decide, by decide⟩ (fun c => ?_) (fun c => ?_)
      · simp only [jc, Bool.not_eq_true', Bool.not_eq_false', decide_eq_true_eq, decide_eq_false_iff_not] at c
        refine t77 _ _ _ ?_ (hUf _ (by omega)) (fun x hx => (hUf x (by omega)).trans (hfr x hx)) s4
        rcases hzF with ⟨_, hv⟩ | ⟨hz0, _⟩
        · rw [hv]
          exact hUw
        · omega
      simp only [jc, Bool.not_eq_true', Bool.not_eq_false', decide_eq_true_eq, decide_eq_false_iff_not] at c
      rcases hzF with ⟨hz1, _⟩ | ⟨hz0, hv⟩
      · omega
      obtain ⟨zn, rfl⟩ := Int.eq_ofNat_of_zero_le hz0
      rw [Int.toNat_natCast] at hv
      iterate 2 refine mj_T.pl rfl rfl rfl rfl ?_
      refine rt_g s4 rfl rfl ?_
      refine mj_T.pl rfl rfl rfl rfl ?_
      refine rt_g s4 rfl rfl ?_
      iterate 2 refine mj_T.pl rfl rfl rfl rfl ?_
      refine rt_g s4 rfl rfl ?_
      refine mj_T.call rfl rfl (Nat.le_of_ble_eq_true rfl) (Nat.le_of_ble_eq_true rfl) (s4.rv19 (by decide) rfl _) rfl (mj_Ok.up (by omega) (rt_12 (D := 0) s4 (show zkG (8 - d) 476 from Or.inr rfl) (z := zn) (by omega))) (fun v h7 hq => ?_) (fun i h7 hq => by obtain ⟨_, ⟨_, _, hq⟩ | ⟨_, _, hq⟩⟩ := hq <;> cases hq)
      obtain ⟨zz, hzz, s7⟩ : ∃ zz : Int, v = some (.int (jn zz)) ∧ ((fit13 (pw (rw13 (Y4 476)) zn) ∧ zz = 1 ∧ rMt g n tx X0 (zkG (8 - d)) (rwu Y4 476 (pw (rw13 (Y4 476)) zn)) t4 (c2 : Int) (-1) h7) ∨ (¬ fit13 (pw (rw13 (Y4 476)) zn) ∧ zz = 0 ∧ rMt g n tx X0 (fun c => c ≠ 476 ∧ zkG (8 - d) c) Y4 t4 (c2 : Int) (-1) h7)) := by
        obtain ⟨h2, ⟨o, s7, hq⟩ | ⟨o, s7, hq⟩⟩ := hq <;> cases hq
        · exact ⟨1, rfl, Or.inl ⟨o, rfl, s7⟩⟩
        · exact ⟨0, rfl, Or.inr ⟨o, rfl, s7⟩⟩
      subst hzz
      refine mj_T.eq (st2 := [.int (jn zz), .ref 455]) ?_ rfl rfl rfl rfl
      refine mj_T.pl rfl rfl rfl rfl ?_
      have t455 : h7[455]? = some (.inr (4, RFt tx (c2 : Int) (-1) t4)) := by rcases s7 with ⟨_, _, q⟩ | ⟨_, _, q⟩ <;> exact q.rd
      refine mj_T.gfl rfl t455 rfl ?_
      refine mj_T.call rfl rfl (Nat.le_of_ble_eq_true rfl) (Nat.le_of_ble_eq_true rfl) (by rcases s7 with ⟨_, _, q⟩ | ⟨_, _, q⟩ <;> exact q.rv (by decide) rfl _) rfl (mj_Ok.up (by omega) (rt_check (D := 0) isRw.f hUw.t s7)) (fun v h8 hq => ?_) (fun i h8 hq => by obtain ⟨_, hq, _⟩ := hq; cases hq)
      obtain ⟨_, hq, s8⟩ := hq
      cases hq
      have fr : ∀ w : Nat → Int, ∀ c, c ≤ 457 + (8 - d) ∨ (467 ≤ c ∧ c < 467 + (8 - d)) → rwu Y4 476 w c = Y0 c := fun w x hx => by rw [rwu_ne _ _ (by omega), hUf x (by omega), hfr x hx]
      have fr2 : ∀ w : Nat → Int, rwu Y4 476 w (467 + (8 - d)) = Y (467 + (8 - d)) := fun w => by rw [rwu_ne _ _ (by omega), hUf _ (by omega)]
      obtain ⟨hUt, ⟨A, a1, a2, a3, a4⟩ | ⟨a1, a2⟩⟩ := hUw
      · rw [rw13_fit a2 a4] at s8
        rcases s8 with ⟨o, s8⟩ | ⟨o, s8⟩
        · exact t77 _ _ _ ⟨hUt, Or.inl ⟨_, by rw [hv, a1]; exact zvf_y o, o, a3, fun j _ => by rw [rwu_at]⟩⟩ (fr2 _) (fr _) s8
        · exact t77 _ _ _ ⟨hUt, Or.inr ⟨by rw [hv, a1]; exact zvf_n o, rfl⟩⟩ (fr2 _) (fr _) s8
      · rcases s8 with ⟨o, s8⟩ | ⟨o, s8⟩
        · exact t77 _ _ _ ⟨hUt, Or.inr ⟨by rw [hv, a1]; rfl, a2⟩⟩ (fr2 _) (fr _) s8
        · exact t77 _ _ _ ⟨hUt, Or.inr ⟨by rw [hv, a1]; rfl, rfl⟩⟩ (fr2 _) (fr _) s8
theorem rt_product {d E : Nat} (hB : bXt tx X0 tm T) (ht : tm ≤ 340) (hT : ∀ j : Nat, j < tm → 0 ≤ T j ∧ T j ≤ 255) (hd : d ≤ 8)
    (ih : ∀ (f p : Nat) (h : mj_H) (res : Bool × Nat) (Y : Nat → Nat → Int) (t : Int), (t = 0 ∨ t = 1) → p ≤ tm → rpr0 T tm f 0 d p = some res → rMt g n tx X0 (zkF (8 - d)) Y t (p : Int) (-1) h → mj_Ok (E + 6) 52 [.ref 455, .int (jn (8 - (d : Int)))] h (rQt T tm g n tx X0 (zkG (8 - d)) p res rV (UF d Y t (zv0 T tm f 0 d p none 1)))) (f p : Nat) (h : mj_H) (res : Bool × Nat) (Y : Nat → Nat → Int) (t : Int) (htt : t = 0 ∨ t = 1) (hp : p ≤ tm) (hf : rpr0 T tm f 1 d p = some res) (s : rMt g n tx X0 (zkP (8 - d)) Y t (p : Int) (-1) h) : mj_Ok (E + 7) 50 [.ref 455, .int (jn (8 - (d : Int)))] h (rQt T tm g n tx X0 (zkF (8 - d)) p res rV0 (UP d Y t (zv0 T tm f 1 d p (some pz_one) 1))) := by
  refine mj_Ok.of (M := mj_m50) (loc := [some (.ref 455), some (.int (jn (8 - (d : Int)))), none, none, none]) rfl rfl rfl ?_
  refine mj_T.pl rfl rfl rfl rfl ?_
  refine rt_g s rfl rfl ?_
  refine mj_T.pl rfl rfl rfl rfl ?_
  rw [show 8 - (d : Int) = ((8 - d : Nat) : Int) by omega]
  refine mj_T.call rfl rfl (Nat.le_of_ble_eq_true rfl) (Nat.le_of_ble_eq_true rfl) rfl rfl (mj_Ok.up (by omega) (rt_48 (D := 0) (b := 466) (k := 8 - d) s (Or.inr rfl) (by omega))) (fun v h1 hq => ?_) (fun i h1 hq => by cases hq)
  cases hq
  rw [← show 8 - (d : Int) = ((8 - d : Nat) : Int) by omega]
  have kr : isRw (467 + (8 - d)) := isRw.p (by omega)
  refine mj_T.eq (st2 := [.ref (467 + (8 - d))]) ?_ rfl rfl rfl rfl
  refine mj_T.pl (loc' := [some (.ref 455), some (.int (jn (8 - (d : Int)))), some (.ref (467 + (8 - d))), none, none]) rfl rfl rfl rfl ?_
  refine mj_T.pl rfl rfl rfl rfl ?_
  refine mj_T.call rfl rfl (Nat.le_of_ble_eq_true rfl) (Nat.le_of_ble_eq_true rfl) rfl rfl (mj_Ok.up (by omega) (rt_165 (D := 0) (Z' := zkF (8 - d)) s kr (fun c hc => by unfold zkF at hc; unfold zkP; omega))) (fun v h1 hq => ?_) (fun i h1 hq => by obtain ⟨_, _, hq⟩ := hq; cases hq)
  obtain ⟨_, s1, hq⟩ := hq
  cases hq
  iterate 2 refine mj_T.pl rfl rfl rfl rfl ?_
  refine jT.lc 1 rfl rfl ?_
  refine rt_last (i := 0) s1 (show zkF (8 - d) (467 + (8 - d)) from Or.inr ⟨by omega, by omega⟩) rfl ⟨by decide, by decide⟩ (by decide) (fun h2 s2 => ?_)
  iterate 2 refine mj_T.pl rfl rfl rfl rfl ?_
  refine rt_product_loop hB ht hT hd ih Y t f p 0 h2 res _ _ t (some pz_one) ⟨htt, Or.inl ⟨_, rfl, fit_one, rfl, fun j hj => ?_⟩⟩ (fun c hc => ?_) hp (Nat.zero_le _) (Nat.le_refl _) hf s2
  · rw [rwu_at, rwu_at]
    rfl
  · rw [rwu_ne _ _ (by omega), rwu_ne _ _ (by omega)]
end JRF2t
section JRG2t
variable {D tm n tx : Nat} {T : Nat → Int} {g h h' : mj_H} {a e t : Int} {X0 Y : Nat → Nat → Int}
/-- a sum: and blanks are passed behind it -/
def rQ2t (T : Nat → Int) (tm : Nat) (g : mj_H) (n tx : Nat) (X0 : Nat → Nat → Int) (Z : Nat → Prop) (a : Nat) (res : Bool × Nat) (U : (Nat → Nat → Int) → Int → Option Value → Prop) (r : mj_R) : Prop := rQt T tm g n tx X0 Z a res rV0 U r ∧ (res.1 = true → rskp T tm res.2 = res.2)
theorem rt_sum_loop {d E a0 : Nat} (hB : bXt tx X0 tm T) (ht : tm ≤ 340) (hT : ∀ j : Nat, j < tm → 0 ≤ T j ∧ T j ≤ 255) (hd : d ≤ 8)
    (ih : ∀ (f p : Nat) (h : mj_H) (res : Bool × Nat) (Y : Nat → Nat → Int) (t : Int), (t = 0 ∨ t = 1) → p ≤ tm → rpr0 T tm f 1 d p = some res → rMt g n tx X0 (zkP (8 - d)) Y t (p : Int) (-1) h → mj_Ok (E + 7) 50 [.ref 455, .int (jn (8 - (d : Int)))] h (rQt T tm g n tx X0 (zkF (8 - d)) p res rV0 (UP d Y t (zv0 T tm f 1 d p (some pz_one) 1)))) (Y0 : Nat → Nat → Int) (t0 : Int) : ∀ (f p i : Nat) (z : Int) (h : mj_H) (res : Bool × Nat) (l5 : Option Value) (Y : Nat → Nat → Int) (t : Int) (P : Option pz_P), U0 P t0 t (Y (457 + (8 - d))) → (∀ c, c < 457 + (8 - d) ∨ (467 ≤ c ∧ c < 467 + (8 - d)) → Y c = Y0 c) → p ≤ tm → i ≤ p → a0 ≤ p → (z = 1 ∨ z = -1) → rpr0 T tm f 2 d p = some res → rMt g n tx X0 (zkP (8 - d)) Y t (p : Int) (-1) h → mj_T (E + 7) mj_m49 31 [some (.ref 455), some (.int (jn (8 - (d : Int)))), some (.ref (457 + (8 - d))), some (.int (jn z)), some (.int (jn (i : Int))), l5] [] h (rQ2t T tm g n tx X0 (zkP (8 - d)) a0 res (US d Y0 t0 (zv0 T tm f 2 d p P z))) := by
  intro f
  induction f with
  | zero => intro p i z h res l5 Y t P _ _ _ _ _ _ hf; cases hf
  | succ f ihf =>
    intro p i z h res l5 Y t P hu hfr hp hi ha hz hf s
    have b := s.jBt hB
    have kr : isRw (457 + (8 - d)) := isRw.s (by omega)
    have eVal : zv0 T tm (f + 1) 2 d p P z = match rpr0 T tm f 1 d p with | some (true, c) => (match rtk T tm 43 c with | some e => zv0 T tm f 2 d e (zva P z (zv0 T tm f 1 d p (some pz_one) 1)) 1 | none => match rtk T tm 45 (rskp T tm c) with | some e => zv0 T tm f 2 d e (zva P z (zv0 T tm f 1 d p (some pz_one) 1)) (-1) | none => zva P z (zv0 T tm f 1 d p (some pz_one) 1)) | _ => none := rfl
    unfold rpr0 at hf
    iterate 2 refine mj_T.pl rfl rfl rfl rfl ?_
    refine rt_g s rfl rfl ?_
    refine mj_T.gfl rfl b.1 rfl ?_
    refine mj_T.icmp (a := (i : Int)) (b := (tm : Int)) rfl ⟨by omega, by omega⟩ ⟨by omega, by omega⟩ (fun c => ?_) (fun _ => ?_)
    · have c := of_decide_eq_true c
      omega
    iterate 2 refine mj_T.pl rfl rfl rfl rfl ?_
    cases hfa : rpr0 T tm f 1 d p with
    | none => rw [hfa] at hf; cases hf
    | some rs =>
      rw [hfa] at hf eVal
      refine mj_T.call rfl rfl (Nat.le_of_ble_eq_true rfl) (Nat.le_of_ble_eq_true rfl) (s.rv (by decide) rfl _) rfl (ih f p h rs Y t hu.t hp hfa s) (fun v h4 hq => ?_) (fun i h4 hq => by obtain ⟨_, _, _, _, _, hq, _⟩ := hq; cases hq)
      obtain ⟨v2, c2, h5, Y4, t4, hq, hv, c3, c4⟩ := hq
      cases hv
      cases hq
      refine mj_T.pl rfl rfl rfl rfl ?_
      obtain ⟨ok, x⟩ := rs
      rcases c4 with ⟨e1, e2, e3, s4, hUw, hUf⟩ | ⟨e1, e2, s4⟩
      rotate_left
      · have e1 : ok = false := e1
        subst e1
        simp only at hf e2 s4
        cases hf
        refine rt_g s4 rfl rfl ?_
        refine mj_T.pl rfl rfl rfl rfl ?_
        refine mj_T.icmp (a := (x : Int)) (b := -1) rfl ⟨by omega, by omega⟩ ⟨by decide, by decide⟩ (fun c => ?_) (fun _ => ?_)
        · simp only [jc, decide_eq_true_eq] at c
          omega
        · exact mj_T.ret rfl rfl rfl ⟨⟨_, c2, _, _, _, rfl, rfl, c3, Or.inr ⟨rfl, e2, s4⟩⟩, fun q => by cases q⟩
      have e1 : ok = true := e1
      have e2 : c2 = x := e2
      subst e1 e2
      simp only at hf eVal
      refine rt_g s4 rfl rfl ?_
      refine mj_T.pl rfl rfl rfl rfl ?_
      refine mj_T.icmp (a := -1) (b := -1) rfl ⟨by decide, by decide⟩ ⟨by decide, by decide⟩ (fun _ => ?_) (fun c => absurd c (by decide))
      iterate 3 refine mj_T.pl rfl rfl rfl rfl ?_
      refine rt_g s4 rfl rfl ?_
      refine mj_T.pl rfl rfl rfl rfl ?_
      have e8 : (8 - (d : Int)) = ((8 - d : Nat) : Int) := by omega
      refine mj_T.call rfl rfl (Nat.le_of_ble_eq_true rfl) (Nat.le_of_ble_eq_true rfl) rfl rfl (by rw [e8]; exact mj_Ok.up (by omega) (rt_48 (D := 0) (b := 466) (k := 8 - d) s4 (Or.inr rfl) (by omega))) (fun v h6 hq => ?_) (fun i h6 hq => by cases hq)
      cases hq
      have k2 : isRw (467 + (8 - d)) := isRw.p (by omega)
      refine mj_T.eq (st2 := [.ref (467 + (8 - d)), .ref (457 + (8 - d)), .ref 455]) ?_ rfl rfl rfl rfl
      iterate 2 refine mj_T.pl rfl rfl rfl rfl ?_
      refine mj_T.call rfl rfl (Nat.le_of_ble_eq_true rfl) (Nat.le_of_ble_eq_true rfl) rfl rfl (mj_Ok.up (by omega) (rt_167 (D := 0) s4 (show zkF (8 - d) (457 + (8 - d)) from Or.inl ⟨by omega, by omega⟩) (show zkF (8 - d) (467 + (8 - d)) from Or.inr ⟨by omega, by omega⟩) hz)) (fun v h6 hq => ?_) (fun i h6 hq => by obtain ⟨_, ⟨_, _, hq⟩ | ⟨_, _, hq⟩⟩ := hq <;> cases hq)
      obtain ⟨zz, hzz, s6⟩ : ∃ zz : Int, v = some (.int (jn zz)) ∧ ((sml (fun j => Y4 (457 + (8 - d)) j + z * Y4 (467 + (8 - d)) j) ∧ zz = 1 ∧ rMt g n tx X0 (zkF (8 - d)) (rwu Y4 (457 + (8 - d)) (fun j => Y4 (457 + (8 - d)) j + z * Y4 (467 + (8 - d)) j)) t4 (c2 : Int) (-1) h6) ∨ (¬ sml (fun j => Y4 (457 + (8 - d)) j + z * Y4 (467 + (8 - d)) j) ∧ zz = 0 ∧ rMt g n tx X0 (fun c => c ≠ 457 + (8 - d) ∧ zkF (8 - d) c) Y4 t4 (c2 : Int) (-1) h6)) := by
        obtain ⟨h2, ⟨o, s7, hq⟩ | ⟨o, s7, hq⟩⟩ := hq <;> cases hq
        · exact ⟨1, rfl, Or.inl ⟨o, rfl, s7⟩⟩
        · exact ⟨0, rfl, Or.inr ⟨o, rfl, s7⟩⟩
      subst hzz
      refine mj_T.eq (st2 := [.int (jn zz), .ref 455]) ?_ rfl rfl rfl rfl
      refine mj_T.pl rfl rfl rfl rfl ?_
      refine mj_T.call rfl rfl (Nat.le_of_ble_eq_true rfl) (Nat.le_of_ble_eq_true rfl) (by rcases s6 with ⟨_, _, q⟩ | ⟨_, _, q⟩ <;> exact q.rv (by decide) rfl _) rfl (mj_Ok.up (by omega) (rt_check (D := 0) kr hUw.t s6)) (fun v h8 hq => ?_) (fun i h8 hq => by obtain ⟨_, hq, _⟩ := hq; cases hq)
      obtain ⟨_, hq, s8⟩ := hq
      cases hq
      have sFP : ∀ (Y9 : Nat → Nat → Int) (t9 : Int), rMt g n tx X0 (zkF (8 - d)) Y9 t9 (c2 : Int) (-1) h8 → rMt g n tx X0 (zkP (8 - d)) Y9 t9 (c2 : Int) (-1) h8 := fun Y9 t9 q => q.mono (fun c hc => by unfold zkP at hc; unfold zkF; omega)
      obtain ⟨Y8, t8, s8, u8, f8⟩ : ∃ (Y8 : Nat → Nat → Int) (t8 : Int), rMt g n tx X0 (zkP (8 - d)) Y8 t8 (c2 : Int) (-1) h8 ∧ U0 (zva P z (zv0 T tm f 1 d p (some pz_one) 1)) t0 t8 (Y8 (457 + (8 - d))) ∧ ∀ c, c < 457 + (8 - d) ∨ (467 ≤ c ∧ c < 467 + (8 - d)) → Y8 c = Y0 c := by
        have e57 : Y4 (457 + (8 - d)) = Y (457 + (8 - d)) := hUf _ (by omega)
        have ff : ∀ w : Nat → Int, ∀ c, c < 457 + (8 - d) ∨ (467 ≤ c ∧ c < 467 + (8 - d)) → rwu Y4 (457 + (8 - d)) w c = Y0 c := fun w c hc => by rw [rwu_ne _ _ (by omega), hUf c (by omega), hfr c hc]
        obtain ⟨hut, ⟨A, a1, a2, a3, a4⟩ | ⟨a1, a2⟩⟩ := hu
        · obtain ⟨_, ⟨B, b1, b2, b3, b4⟩ | ⟨b1, b2⟩⟩ := hUw
          · have ee : ∀ j, j < 13 → Y4 (457 + (8 - d)) j + z * Y4 (467 + (8 - d)) j = A j + z * B j := fun j hj => by rw [e57, a4 j hj, b4 j hj]
            rcases s8 with ⟨o, s8⟩ | ⟨o, s8⟩
            · have o2 := (fit_sum (s := z) a2 b2).mpr (sml_cg ee o)
              exact ⟨_, _, sFP _ _ s8, ⟨hut, Or.inl ⟨_, by rw [a1, b1]; exact zvf_y o2, o2, b3.trans a3, fun j hj => by rw [rwu_at]; exact ee j hj⟩⟩, ff _⟩
            · have o2 : ¬ fit13 (fun j => A j + z * B j) := fun q => o (sml_cg (fun j hj => (ee j hj).symm) q.1)
              exact ⟨_, _, sFP _ _ s8, ⟨hut, Or.inr ⟨by rw [a1, b1]; exact zvf_n o2, rfl⟩⟩, ff _⟩
          · rcases s8 with ⟨o, s8⟩ | ⟨o, s8⟩
            · exact ⟨_, _, sFP _ _ s8, ⟨hut, Or.inr ⟨by rw [a1, b1]; rfl, b2⟩⟩, ff _⟩
            · exact ⟨_, _, sFP _ _ s8, ⟨hut, Or.inr ⟨by rw [a1, b1]; rfl, rfl⟩⟩, ff _⟩
        · have n1 : zva P z (zv0 T tm f 1 d p (some pz_one) 1) = none := by rw [a1]; rfl
          have t41 : t4 = 1 := by
            obtain ⟨_, ⟨B, b1, b2, b3, b4⟩ | ⟨b1, b2⟩⟩ := hUw
            · exact b3.trans a2
            · exact b2
          rcases s8 with ⟨o, s8⟩ | ⟨o, s8⟩
          · exact ⟨_, _, sFP _ _ s8, ⟨hut, Or.inr ⟨n1, t41⟩⟩, ff _⟩
          · exact ⟨_, _, sFP _ _ s8, ⟨hut, Or.inr ⟨n1, rfl⟩⟩, ff _⟩
      have hl9 := rskp_le (T := T) c3
      have hg9 := rskp_ge (T := T) (tm := tm) c2
      -- the next product, with its sign
      have t99 : ∀ (y : Int) (b9 : Nat) (h9 : mj_H), (y = 0 ∨ y = 1) → b9 ≤ tm → i + 1 ≤ b9 → a0 ≤ b9 → rpr0 T tm f 2 d b9 = some res → zv0 T tm (f + 1) 2 d p P z = zv0 T tm f 2 d b9 (zva P z (zv0 T tm f 1 d p (some pz_one) 1)) (if y = 0 then -1 else 1) → rMt g n tx X0 (zkP (8 - d)) Y8 t8 (b9 : Int) (-1) h9 → mj_T (E + 7) mj_m49 99 [some (.ref 455), some (.int (jn (8 - (d : Int)))), some (.ref (457 + (8 - d))), some (.int (jn z)), some (.int (jn (i : Int))), some (.int (jn y))] [] h9 (rQ2t T tm g n tx X0 (zkP (8 - d)) a0 res (US d Y0 t0 (zv0 T tm (f + 1) 2 d p P z))) := fun y b9 h9 hy g2 g3 g4 hf9 ev9 s9 => by
        have t109 : ∀ z2 : Int, (z2 = 1 ∨ z2 = -1) → z2 = (if y = 0 then -1 else 1) → mj_T (E + 7) mj_m49 109 [some (.ref 455), some (.int (jn (8 - (d : Int)))), some (.ref (457 + (8 - d))), some (.int (jn z)), some (.int (jn (i : Int))), some (.int (jn y))] [.int (jn z2)] h9 (rQ2t T tm g n tx X0 (zkP (8 - d)) a0 res (US d Y0 t0 (zv0 T tm (f + 1) 2 d p P z))) := fun z2 hz2 hzy => by
          refine mj_T.pl (loc' := [some (.ref 455), some (.int (jn (8 - (d : Int)))), some (.ref (457 + (8 - d))), some (.int (jn z2)), some (.int (jn (i : Int))), some (.int (jn y))]) rfl rfl rfl rfl ?_
          refine mj_T.iinc (a := (i : Int)) rfl rfl ?_
          refine mj_T.eq (loc2 := [some (.ref 455), some (.int (jn (8 - (d : Int)))), some (.ref (457 + (8 - d))), some (.int (jn z2)), some (.int (jn ((i + 1 : Nat) : Int))), some (.int (jn y))]) ?_ rfl (by rw [show ((i + 1 : Nat) : Int) = (i : Int) + 1 by omega]; rfl) rfl rfl
          refine mj_T.pl rfl rfl rfl rfl ?_
          rw [ev9, ← hzy]
          exact ihf b9 (i + 1) z2 h9 res _ Y8 t8 _ u8 f8 g2 g3 g4 hz2 hf9 s9
        refine mj_T.pl rfl rfl rfl rfl ?_
        refine mj_T.if0 (a := y) rfl ⟨by omega, by omega⟩ (fun c => ?_) (fun c => ?_)
        · refine mj_T.pl rfl rfl rfl rfl ?_
          simp only [jc, Bool.not_eq_true', Bool.not_eq_false', decide_eq_true_eq, decide_eq_false_iff_not] at c
          exact t109 (-1) (Or.inr rfl) (if_pos c).symm
        · iterate 2 refine mj_T.pl rfl rfl rfl rfl ?_
          simp only [jc, Bool.not_eq_true', Bool.not_eq_false', decide_eq_true_eq, decide_eq_false_iff_not] at c
          exact t109 1 (Or.inl rfl) (if_neg c).symm
      iterate 2 refine mj_T.pl rfl rfl rfl rfl ?_
      refine mj_T.call rfl rfl (Nat.le_of_ble_eq_true rfl) (Nat.le_of_ble_eq_true rfl) (s8.rv (by decide) rfl _) rfl (mj_Ok.up (by omega) (rt_takes (D := 0) (c := 43) ⟨by decide, by decide⟩ hB ht hT c3 s8)) (fun v h9 hq => ?_) (fun i h9 hq => by rcases hq with ⟨_, _, _, _, hq⟩ | ⟨_, _, _, hq⟩ <;> cases hq)
      rcases hq with ⟨b9, _, ⟨g1, g2, g3⟩, s9, hq⟩ | ⟨_, g1, s9, hq⟩
      · cases hq
        rw [g1] at hf eVal
        refine mj_T.pl (loc' := [some (.ref 455), some (.int (jn (8 - (d : Int)))), some (.ref (457 + (8 - d))), some (.int (jn z)), some (.int (jn (i : Int))), some (.int (jn 1))]) rfl rfl rfl rfl ?_
        refine mj_T.pl rfl rfl rfl rfl ?_
        refine mj_T.if0 (a := 1) rfl ⟨by decide, by decide⟩ (fun _ => ?_) (fun hc2 => by simp [jc] at hc2)
        exact t99 1 b9 h9 (Or.inr rfl) g2 (by omega) (by omega) hf eVal s9
      · cases hq
        rw [g1] at hf eVal
        simp only at hf eVal
        refine mj_T.pl (loc' := [some (.ref 455), some (.int (jn (8 - (d : Int)))), some (.ref (457 + (8 - d))), some (.int (jn z)), some (.int (jn (i : Int))), some (.int (jn 0))]) rfl rfl rfl rfl ?_
        refine mj_T.pl rfl rfl rfl rfl ?_
        refine mj_T.if0 (a := 0) rfl ⟨by decide, by decide⟩ (fun hc2 => by simp [jc] at hc2) (fun _ => ?_)
        iterate 2 refine mj_T.pl rfl rfl rfl rfl ?_
        refine mj_T.call rfl rfl (Nat.le_of_ble_eq_true rfl) (Nat.le_of_ble_eq_true rfl) (s9.rv (by decide) rfl _) rfl (mj_Ok.up (by omega) (rt_takes (D := 0) (c := 45) ⟨by decide, by decide⟩ hB ht hT hl9 s9)) (fun v h10 hq => ?_) (fun i h10 hq => by rcases hq with ⟨_, _, _, _, hq⟩ | ⟨_, _, _, hq⟩ <;> cases hq)
        rcases hq with ⟨b9, _, ⟨g1, g2, g3⟩, s10, hq⟩ | ⟨_, g1, s10, hq⟩
        · cases hq
          rw [g1] at hf eVal
          refine mj_T.if0 (a := 1) rfl ⟨by decide, by decide⟩ (fun _ => ?_) (fun hc2 => by simp [jc] at hc2)
          exact t99 0 b9 h10 (Or.inl rfl) g2 (by omega) (by omega) hf eVal s10
        · cases hq
          rw [g1] at hf eVal
          cases hf
          rw [rskp_idem c3] at s10
          refine mj_T.if0 (a := 0) rfl ⟨by decide, by decide⟩ (fun hc2 => by simp [jc] at hc2) (fun _ => ?_)
          exact mj_T.ret rfl rfl rfl ⟨⟨_, rskp T tm c2, h10, Y8, t8, rfl, rfl, hl9, Or.inl ⟨rfl, rfl, by omega, s10, by rw [eVal]; exact ⟨u8, f8⟩⟩⟩, fun _ => rskp_idem c3⟩
theorem rt_sum {d E : Nat} (hB : bXt tx X0 tm T) (ht : tm ≤ 340) (hT : ∀ j : Nat, j < tm → 0 ≤ T j ∧ T j ≤ 255) (hd : d ≤ 8)
    (ih : ∀ (f p : Nat) (h : mj_H) (res : Bool × Nat) (Y : Nat → Nat → Int) (t : Int), (t = 0 ∨ t = 1) → p ≤ tm → rpr0 T tm f 1 d p = some res → rMt g n tx X0 (zkP (8 - d)) Y t (p : Int) (-1) h → mj_Ok (E + 7) 50 [.ref 455, .int (jn (8 - (d : Int)))] h (rQt T tm g n tx X0 (zkF (8 - d)) p res rV0 (UP d Y t (zv0 T tm f 1 d p (some pz_one) 1)))) (f p : Nat) (h : mj_H) (res : Bool × Nat) (Y : Nat → Nat → Int) (t : Int) (htt : t = 0 ∨ t = 1) (hp : p ≤ tm) (hf : rpr0 T tm f 3 d p = some res) (s : rMt g n tx X0 (zkS (8 - d)) Y t (p : Int) (-1) h) : mj_Ok (E + 8) 49 [.ref 455, .int (jn (8 - (d : Int)))] h (rQ2t T tm g n tx X0 (zkP (8 - d)) p res (US d Y t (zv0 T tm f 3 d p none 1))) := by
  obtain ⟨f, rfl⟩ : ∃ f0, f = f0 + 1 := by
    cases f with
    | zero => cases hf
    | succ f0 => exact ⟨f0, rfl⟩
  have eVal : zv0 T tm (f + 1) 3 d p none 1 = match rtk T tm 45 p with | some e => zv0 T tm f 2 d e (some pz_0) (-1) | none => zv0 T tm f 2 d (rskp T tm p) (some pz_0) 1 := rfl
  have kr : isRw (457 + (8 - d)) := isRw.s (by omega)
  have e8 : (8 - (d : Int)) = ((8 - d : Nat) : Int) := by omega
  unfold rpr0 at hf
  refine mj_Ok.of (M := mj_m49) (loc := [some (.ref 455), some (.int (jn (8 - (d : Int)))), none, none, none, none]) rfl rfl rfl ?_
  refine mj_T.pl rfl rfl rfl rfl ?_
  refine rt_g s rfl rfl ?_
  refine mj_T.pl rfl rfl rfl rfl ?_
  refine mj_T.call rfl rfl (Nat.le_of_ble_eq_true rfl) (Nat.le_of_ble_eq_true rfl) rfl rfl (by rw [e8]; exact mj_Ok.up (by omega) (rt_48 (D := 0) (b := 456) (k := 8 - d) s (Or.inl rfl) (by omega))) (fun v h1 hq => ?_) (fun i h1 hq => by cases hq)
  cases hq
  refine mj_T.eq (st2 := [.ref (457 + (8 - d))]) ?_ rfl rfl rfl rfl
  refine mj_T.pl (loc' := [some (.ref 455), some (.int (jn (8 - (d : Int)))), some (.ref (457 + (8 - d))), none, none, none]) rfl rfl rfl rfl ?_
  refine mj_T.pl rfl rfl rfl rfl ?_
  refine mj_T.call rfl rfl (Nat.le_of_ble_eq_true rfl) (Nat.le_of_ble_eq_true rfl) rfl rfl (mj_Ok.up (by omega) (rt_165 (D := 0) (Z' := zkP (8 - d)) s kr (fun c hc => by unfold zkP at hc; unfold zkS; omega))) (fun v h1 hq => ?_) (fun i h1 hq => by obtain ⟨_, _, hq⟩ := hq; cases hq)
  obtain ⟨_, s1, hq⟩ := hq
  cases hq
  iterate 2 refine mj_T.pl rfl rfl rfl rfl ?_
  refine mj_T.call rfl rfl (Nat.le_of_ble_eq_true rfl) (Nat.le_of_ble_eq_true rfl) (s1.rv (by decide) rfl _) rfl (mj_Ok.up (by omega) (rt_takes (D := 0) (c := 45) ⟨by decide, by decide⟩ hB ht hT hp s1)) (fun v h2 hq => ?_) (fun i h2 hq => by rcases hq with ⟨_, _, _, _, hq⟩ | ⟨_, _, _, hq⟩ <;> cases hq)
  have t27 : ∀ (z : Int) (b : Nat) (h2 : mj_H), (z = 1 ∨ z = -1) → b ≤ tm → p ≤ b → rpr0 T tm f 2 d b = some res → zv0 T tm (f + 1) 3 d p none 1 = zv0 T tm f 2 d b (some pz_0) z → rMt g n tx X0 (zkP (8 - d)) (rwu Y (457 + (8 - d)) (fun _ => 0)) t (b : Int) (-1) h2 → mj_T (E + 7) mj_m49 27 [some (.ref 455), some (.int (jn (8 - (d : Int)))), some (.ref (457 + (8 - d))), none, none, none] [.int (jn z)] h2 (rQ2t T tm g n tx X0 (zkP (8 - d)) p res (US d Y t (zv0 T tm (f + 1) 3 d p none 1))) := fun z b h2 hz hb hpb hf2 ev s2 => by
    refine mj_T.pl (loc' := [some (.ref 455), some (.int (jn (8 - (d : Int)))), some (.ref (457 + (8 - d))), some (.int (jn z)), none, none]) rfl rfl rfl rfl ?_
    iterate 2 refine mj_T.pl rfl rfl rfl rfl ?_
    rw [ev]
    exact rt_sum_loop hB ht hT hd ih Y t f b 0 z h2 res none _ t (some pz_0) ⟨htt, Or.inl ⟨_, rfl, fit_0, rfl, fun j hj => by rw [rwu_at]; rfl⟩⟩ (fun c hc => rwu_ne _ _ (by omega)) hb (Nat.zero_le _) hpb hz hf2 s2
  have hg := rskp_ge (T := T) (tm := tm) p
  have hl := rskp_le (T := T) hp
  rcases hq with ⟨b, _, ⟨b1, b2, b3⟩, s2, hq⟩ | ⟨_, b1, s2, hq⟩
  · cases hq
    rw [b1] at hf eVal
    refine mj_T.if0 (a := 1) rfl ⟨by decide, by decide⟩ (fun hc2 => by simp [jc] at hc2) (fun _ => ?_)
    iterate 2 refine mj_T.pl rfl rfl rfl rfl ?_
    exact t27 (-1) b h2 (Or.inr rfl) b2 (by omega) hf eVal s2
  · cases hq
    rw [b1] at hf eVal
    refine mj_T.if0 (a := 0) rfl ⟨by decide, by decide⟩ (fun _ => ?_) (fun hc2 => by simp [jc] at hc2)
    refine mj_T.pl rfl rfl rfl rfl ?_
    exact t27 1 _ h2 (Or.inl rfl) hl hg hf eVal s2
theorem rt_all (hB : bXt tx X0 tm T) (ht : tm ≤ 340) (hT : ∀ j : Nat, j < tm → 0 ≤ T j ∧ T j ≤ 255) : ∀ d, d ≤ 8 → ∀ (f p : Nat) (h : mj_H) (res : Bool × Nat) (Y : Nat → Nat → Int) (t : Int), (t = 0 ∨ t = 1) → p ≤ tm → rpr0 T tm f 3 d p = some res → rMt g n tx X0 (zkS (8 - d)) Y t (p : Int) (-1) h → mj_Ok (3 * d + 8) 49 [.ref 455, .int (jn (8 - (d : Int)))] h (rQ2t T tm g n tx X0 (zkP (8 - d)) p res (US d Y t (zv0 T tm f 3 d p none 1))) := by
  intro d
  induction d with
  | zero =>
    intro _ f p h res Y t htt hp hf s
    refine rt_sum (E := 0) hB ht hT (by decide) (fun f p h res Y t htt hp hf s => ?_) f p h res Y t htt hp hf s
    exact rt_product (E := 0) hB ht hT (by decide) (fun f p h res Y t htt hp hf s => rt_factor (E := 5) hB ht hT (by decide) (Nat.le_refl 5) htt (fun d' e => by omega) hp hf s) f p h res Y t htt hp hf s
  | succ d ihd =>
    intro hd f p h res Y t htt hp hf s
    have e : 3 * (d + 1) + 8 = (3 * d + 3) + 8 := by omega
    rw [e]
    refine rt_sum (E := 3 * d + 3) hB ht hT hd (fun f p h res Y t htt hp hf s => ?_) f p h res Y t htt hp hf s
    refine rt_product (E := 3 * d + 3) hB ht hT hd (fun f p h res Y t htt hp hf s => ?_) f p h res Y t htt hp hf s
    exact rt_factor (E := 3 * d + 8) hB ht hT hd (by omega) htt (fun d' e f p h res Y t htt hp hf s => by
      have e2 : d = d' := by omega
      subst e2
      exact (ihd (by omega) f p h res Y t htt hp hf s).to (fun r q => q.1)) hp hf s
end JRG2t
