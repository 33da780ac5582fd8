/-! The class's reader over any of its texts. -/
theorem cq_tx {tx : Nat} (h : tx = 13 ∨ tx = 15 ∨ tx = 17) : (cK tx = 27 ∨ cK tx = 17) ∧ cK (tx + 1) = 3 ∧ cL (tx + 1) ≤ 340 := by
  rcases h with rfl | rfl | rfl
  · exact ⟨Or.inl cq_d13, cq_456.2.2.2.2.2.2.2.2, by rw [cq_456.2.2.2.2.2.2.1]; decide⟩
  · exact ⟨Or.inr cq_t.1.1, cq_t.1.2.1, by rw [cq_t.1.2.2.2.1]; decide⟩
  · exact ⟨Or.inr cq_t.2.1, cq_t.2.2.1, by rw [cq_t.2.2.2.2]; decide⟩
theorem rvt_bd0 {T : Nat → Int} {tm : Nat} (hT : ∀ j : Nat, j < tm → 0 ≤ T j ∧ T j ≤ 255) (a : Nat) : -1 ≤ rvt T tm a ∧ rvt T tm a ≤ 255 := by
  unfold rvt
  split
  · rename_i c
    have := hT a c
    omega
  · omega
def RFt (tx : Nat) (a e t : Int) : List Value := [.ref 19, .ref tx, .int (jn a), .int (jn e), .int (jn t), .ref 456, .ref 466, .ref 476]
/-- a text and its bytes -/
def jBt (tx tm : Nat) (T : Nat → Int) (h : mj_H) : Prop := h[tx]? = some (.inr (7, [.ref (tx + 1), .int (jn (tm : Int))])) ∧ ∃ (L : Nat) (f : Nat → Value), L ≤ 340 ∧ tm ≤ L ∧ h[tx + 1]? = some (.inl (2, L, f)) ∧ ∀ j : Nat, j < tm → ∃ x : Int32, f j = .int x ∧ x &&& Int32.ofInt 255 = jn (T j)
def bXt (tx : Nat) (X : Nat → Nat → Int) (tm : Nat) (T : Nat → Int) : Prop := (tx = 13 ∨ tx = 15 ∨ tx = 17) ∧ X tx 1 = (tm : Int) ∧ tm ≤ cL (tx + 1) ∧ ∀ j : Nat, j < tm → jn (X (tx + 1) j) &&& Int32.ofInt 255 = jn (T j)
section JBTt
variable {D tm : Nat} {T : Nat → Int} {h : mj_H}
theorem rq_att {tx : Nat} {i : Int} (b : jBt tx tm T h) (ht : tm ≤ 340) (hT : ∀ j : Nat, j < tm → 0 ≤ T j ∧ T j ≤ 255) (hi : jr i) : mj_Ok (D + 1) 79 [.ref tx, .int (jn i)] h (fun r => r = (.inl (some (.int (jn (if 0 ≤ i ∧ i < (tm : Int) then T i.toNat else -1)))), h)) := by
  obtain ⟨b1, L, f, L1, L2, b2, b3⟩ := b
  have no : ¬ (0 ≤ i ∧ i < (tm : Int)) → mj_T D mj_m79 34 [some (.ref tx), some (.int (jn i))] [] h (fun r => r = (.inl (some (.int (jn (if 0 ≤ i ∧ i < (tm : Int) then T i.toNat else -1)))), h)) := fun hn => by
    rw [if_neg hn]
    refine mj_T.pl rfl rfl rfl rfl ?_
    exact mj_T.ret rfl rfl rfl rfl
  refine mj_Ok.of (M := mj_m79) (loc := [some (.ref tx), some (.int (jn i))]) rfl rfl rfl ?_
  refine mj_T.pl rfl rfl rfl rfl ?_
  refine mj_T.if0 (a := i) rfl hi (fun c => ?_) (fun c => ?_)
  · have c := of_decide_eq_true c
    exact no (by omega)
  have c := of_decide_eq_false c
  iterate 2 refine mj_T.pl rfl rfl rfl rfl ?_
  refine mj_T.gfl rfl b1 rfl ?_
  refine mj_T.icmp (a := i) (b := (tm : Int)) rfl hi ⟨by omega, by omega⟩ (fun c2 => ?_) (fun c2 => ?_)
  · have c2 := of_decide_eq_true c2
    exact no (by omega)
  have c2 := of_decide_eq_false c2
  iterate 2 refine mj_T.pl rfl rfl rfl rfl ?_
  refine mj_T.gfl rfl b1 rfl ?_
  refine mj_T.alen rfl b2 ?_
  refine mj_T.icmp (a := i) (b := (L : Int)) rfl hi ⟨by omega, by omega⟩ (fun c3 => ?_) (fun c3 => ?_)
  · have c3 := of_decide_eq_true c3
    omega
  refine mj_T.pl rfl rfl rfl rfl ?_
  refine mj_T.gfl rfl b1 rfl ?_
  refine mj_T.pl rfl rfl rfl rfl ?_
  obtain ⟨k, rfl⟩ := Int.eq_ofNat_of_zero_le (show 0 ≤ i by omega)
  obtain ⟨x, x1, x2⟩ := b3 k (by omega)
  have hin : mj_in (jn (k : Int)) L = true := by rw [jn_in hi]; exact decide_eq_true ⟨by omega, by omega⟩
  have hn : (jn (k : Int)).toNatClampNeg = k := by rw [jn_nat (by omega) hi]; rfl
  refine mj_T.step (pc' := 27) (loc' := [some (.ref tx), some (.int (jn (k : Int)))]) (st' := [.int x]) (h' := h) rfl rfl (by simp only [mj_step, b2, hin, hn, x1, true_and, if_true]) ?_
  refine mj_T.pl rfl rfl rfl rfl ?_
  refine mj_T.step (pc' := 31) (loc' := [some (.ref tx), some (.int (jn (k : Int)))]) (st' := [.int (jn (T k))]) (h' := h) rfl rfl (by simp only [mj_step, x2]) ?_
  refine mj_T.pl rfl rfl rfl rfl ?_
  refine mj_T.ret rfl rfl rfl ?_
  rw [if_pos ⟨by omega, by omega⟩]
  rfl
end JBTt
/-- the class while it reads: the benches and texts as in X0, the rows Y where Z says so, too great (t = 1), at the place a, with the error e -/
def rMt (g : mj_H) (n tx : Nat) (X0 : Nat → Nat → Int) (Z : Nat → Prop) (Y : Nat → Nat → Int) (t a e : Int) (h : mj_H) : Prop := ∃ (V : Nat → Int) (X : Nat → Nat → Int), jM g n V X h ∧ (by0 V ∧ DG X ∧ sBn X0 X) ∧ (X 455 1 = (tx : Int) ∧ X 455 2 = a ∧ X 455 3 = e ∧ X 455 4 = t) ∧ ∀ c, Z c → isRw c ∧ sml (Y c) ∧ ∀ j, j < 13 → X c j = Y c j
section RMBt
variable {D tm n tx : Nat} {T : Nat → Int} {g h h' : mj_H} {a e t : Int} {X0 Y : Nat → Nat → Int} {Z Z' : Nat → Prop}
variable {pc : Nat} {M : mj_M} {loc : mj_L} {st : List Value} {Q : mj_R → Prop} {r1 r2 r3 r4 r5 : Nat}
theorem rMt.rd (s : rMt g n tx X0 Z Y t a e h) : h[455]? = some (.inr (4, RFt tx a e t)) := by
  obtain ⟨V, X, m, _, ⟨x1, x2, x3, x4⟩, _⟩ := s
  have h1 := m.O 14 cq_456.2.2.2.2.1 (by decide)
  rw [h1]
  show some (Sum.inr (4, [Value.ref 19, .ref (X 455 1).toNat, .int (jn (X 455 2)), .int (jn (X 455 3)), .int (jn (X 455 4)), .ref 456, .ref 466, .ref 476])) = _
  rw [x1, x2, x3, x4]
  rfl
theorem rMt.jBt (s : rMt g n tx X0 Z Y t a e h) (b : bXt tx X0 tm T) : jBt tx tm T h := by
  obtain ⟨V, X, m, ⟨_, _, sb⟩, _, _⟩ := s
  obtain ⟨b0, b1, b2, b3⟩ := b
  have e13 := sb.2.2 tx (Or.inl ⟨by omega, by omega⟩)
  have e14 := sb.2.2 (tx + 1) (Or.inl ⟨by omega, by omega⟩)
  obtain ⟨k1, k2, k3⟩ := cq_tx b0
  refine ⟨?_, ?_⟩
  · rcases k1 with k1 | k1
    · have h1 := m.O 27 k1 (by decide)
      rw [h1]
      show some (Sum.inr (7, [Value.ref (tx + 1), .int (jn (X tx 1))])) = _
      rw [e13, b1]
    · have h1 := m.O 17 k1 (by decide)
      rw [h1]
      show some (Sum.inr (7, [Value.ref (tx + 1), .int (jn (X tx 1))])) = _
      rw [e13, b1]
  · have h1 := m.2.2 (tx + 1)
    rw [k2] at h1
    have h2 : h[tx + 1]? = some (.inl (2, cL (tx + 1), fun j => .int (jn (X (tx + 1) j)))) := h1
    exact ⟨cL (tx + 1), _, by omega, b2, h2, fun j hj => ⟨_, rfl, by rw [e14]; exact b3 j hj⟩⟩
theorem rMt.rv (s : rMt g n tx X0 Z Y t a e h) (hr : 1 ≤ r2) (hd : st.drop (r2 - 1) = .ref 455 :: st.drop r2) : ∀ m, mj_recv (.invokevirtual m) r2 4 st h = true := by
  intro m
  have h1 := s.rd
  match r2, hr, hd with
  | r2 + 1, _, hd =>
    simp only [mj_recv, hd, h1, decide_true]
theorem rt_g {f i : Nat} {v : Value} (s : rMt g n tx X0 Z Y t a e h) (hc : M.2.2.2.2.1 pc = some (.getfield f, 4, i, r3, r4, r5)) (hf : (RFt tx a e t)[i]? = some v) (k : mj_T D M (pc + 3) loc (v :: st) h Q) : mj_T D M pc loc (.ref 455 :: st) h Q := mj_T.gfl hc s.rd hf k
theorem rMt.upf (s : rMt g n tx X0 Z Y t a e h) {i : Nat} {b a' e' t' : Int} (hi : 2 ≤ i ∧ i ≤ 4) (h2 : a' = if i = 2 then b else a) (h3 : e' = if i = 3 then b else e) (h4 : t' = if i = 4 then b else t) : rMt g n tx X0 Z Y t' a' e' (h.set 455 (.inr (4, (RFt tx a e t).set i (.int (jn b))))) := by
  have hrd := s.rd
  obtain ⟨V, X, m, ⟨y1, y2, y3⟩, ⟨x1, x2, x3, x4⟩, yr⟩ := s
  have h1 := m.O 14 cq_456.2.2.2.2.1 (by decide)
  have hE : jMf X 14 455 = RFt tx a e t := by
    rw [h1] at hrd
    injection hrd with q
    injection q with q
    exact (Prod.mk.inj q).2
  have hm := m.setO (a := 455) (i := i) (k := 14) (v := b) cq_456.2.2.2.2.1 (by decide) (by
    have c : i = 2 ∨ i = 3 ∨ i = 4 := by omega
    rcases c with rfl | rfl | rfl
    · show [Value.ref 19, .ref (xup X 455 2 b 455 1).toNat, .int (jn (xup X 455 2 b 455 2)), .int (jn (xup X 455 2 b 455 3)), .int (jn (xup X 455 2 b 455 4)), .ref 456, .ref 466, .ref 476] = _
      rw [xup_at, xup_ne _ _ (Or.inr (by decide)), xup_ne _ _ (Or.inr (by decide)), xup_ne _ _ (Or.inr (by decide))]
      rfl
    · show [Value.ref 19, .ref (xup X 455 3 b 455 1).toNat, .int (jn (xup X 455 3 b 455 2)), .int (jn (xup X 455 3 b 455 3)), .int (jn (xup X 455 3 b 455 4)), .ref 456, .ref 466, .ref 476] = _
      rw [xup_at, xup_ne _ _ (Or.inr (by decide)), xup_ne _ _ (Or.inr (by decide)), xup_ne _ _ (Or.inr (by decide))]
      rfl
    · show [Value.ref 19, .ref (xup X 455 4 b 455 1).toNat, .int (jn (xup X 455 4 b 455 2)), .int (jn (xup X 455 4 b 455 3)), .int (jn (xup X 455 4 b 455 4)), .ref 456, .ref 466, .ref 476] = _
      rw [xup_at, xup_ne _ _ (Or.inr (by decide)), xup_ne _ _ (Or.inr (by decide)), xup_ne _ _ (Or.inr (by decide))]
      rfl)
  rw [hE] at hm
  have eo : ∀ c, c ≠ 455 → xup X 455 i b c = X c := fun c hc => funext fun j => xup_ne _ _ (Or.inl hc)
  refine ⟨V, _, hm, ⟨y1, y2.of (fun p kp => eo p (fun q => by rw [q, cq_456.2.2.2.2.1] at kp; omega)), ?_⟩, ?_, fun c hc => ⟨(yr c hc).1, (yr c hc).2.1, fun j hj => ?_⟩⟩
  · exact ⟨(congrFun (eo 1 (by decide)) 2).trans y3.1, (congrFun (eo 1 (by decide)) 3).trans y3.2.1, fun c hc => (eo c (by omega)).trans (y3.2.2 c hc)⟩
  · subst h2 h3 h4
    refine ⟨(xup_ne _ _ (Or.inr (by omega))).trans x1, ?_, ?_, ?_⟩
    · by_cases q : i = 2
      · subst q
        exact xup_at _ _ _ _
      · rw [if_neg q]
        exact (xup_ne _ _ (Or.inr (Ne.symm q))).trans x2
    · by_cases q : i = 3
      · subst q
        exact xup_at _ _ _ _
      · rw [if_neg q]
        exact (xup_ne _ _ (Or.inr (Ne.symm q))).trans x3
    · by_cases q : i = 4
      · subst q
        exact xup_at _ _ _ _
      · rw [if_neg q]
        exact (xup_ne _ _ (Or.inr (Ne.symm q))).trans x4
  · have := (yr c hc).1.ne
    by_cases q : c = 455
    · omega
    · rw [eo c q]
      exact (yr c hc).2.2 j hj
theorem rt_p2 {f : Nat} {b : Int} (s : rMt g n tx X0 Z Y t a e h) (hc : M.2.2.2.2.1 pc = some (.putfield f, 4, 2, 0, r4, r5)) (k : ∀ h', rMt g n tx X0 Z Y t b e h' → mj_T D M (pc + 3) loc st h' Q) : mj_T D M pc loc (.int (jn b) :: .ref 455 :: st) h Q := mj_T.pfl hc s.rd (Nat.le_of_ble_eq_true rfl) rfl (k _ (s.upf (i := 2) ⟨by decide, by decide⟩ rfl rfl rfl))
theorem rt_p3 {f : Nat} {b : Int} (s : rMt g n tx X0 Z Y t a e h) (hc : M.2.2.2.2.1 pc = some (.putfield f, 4, 3, 0, r4, r5)) (k : ∀ h', rMt g n tx X0 Z Y t a b h' → mj_T D M (pc + 3) loc st h' Q) : mj_T D M pc loc (.int (jn b) :: .ref 455 :: st) h Q := mj_T.pfl hc s.rd (Nat.le_of_ble_eq_true rfl) rfl (k _ (s.upf (i := 3) ⟨by decide, by decide⟩ rfl rfl rfl))
theorem rt_p4 {f : Nat} {b : Int} (hb : b = 0 ∨ b = 1) (s : rMt g n tx X0 Z Y t a e h) (hc : M.2.2.2.2.1 pc = some (.putfield f, 4, 4, 2, r4, r5)) (k : ∀ h', rMt g n tx X0 Z Y b a e h' → mj_T D M (pc + 3) loc st h' Q) : mj_T D M pc loc (.int (jn b) :: .ref 455 :: st) h Q := by
  refine mj_T.pfl hc s.rd (Nat.le_of_ble_eq_true rfl) ?_ (k _ (s.upf (i := 4) ⟨by decide, by decide⟩ rfl rfl rfl))
  rcases hb with q | q <;> subst q <;> rfl
theorem rMt.mono (s : rMt g n tx X0 Z Y t a e h) (hZ : ∀ c, Z' c → Z c) : rMt g n tx X0 Z' Y t a e h := by
  obtain ⟨V, X, m, y, x, yr⟩ := s
  exact ⟨V, X, m, y, x, fun c hc => yr c (hZ c hc)⟩
/-- a row is written -/
theorem rMt.row {V2 : Nat → Int} {X X2 : Nat → Nat → Int} {r : Nat} {w : Nat → Int} (m2 : jM g n V2 X2 h') (b2 : by0 V2) (d2 : DG X2) (y3 : sBn X0 X) (x : X 455 1 = (tx : Int) ∧ X 455 2 = a ∧ X 455 3 = e ∧ X 455 4 = t) (yr : ∀ c, Z c → isRw c ∧ sml (Y c) ∧ ∀ j, j < 13 → X c j = Y c j) (kr : isRw r) (hZ : ∀ c, Z' c → c = r ∨ Z c) (ho : ∀ c, c ≠ r → c = 1 ∨ (2 ≤ c ∧ c < 19) ∨ 455 ≤ c → X2 c = X c) (hw : sml w) (hr : ∀ j, j < 13 → X2 r j = w j) : rMt g n tx X0 Z' (rwu Y r w) t a e h' := by
  have hk := kr.ne
  have e455 := ho 455 (by omega) (Or.inr (Or.inr (by decide)))
  refine ⟨V2, X2, m2, ⟨b2, d2, ?_⟩, by rw [e455]; exact x, fun c hc => ?_⟩
  · have e1 := ho 1 (by omega) (Or.inl rfl)
    exact ⟨by rw [e1]; exact y3.1, by rw [e1]; exact y3.2.1, fun c hc => (ho c (by omega) (by omega)).trans (y3.2.2 c hc)⟩
  · by_cases q : c = r
    · subst q
      rw [rwu_at]
      exact ⟨kr, hw, hr⟩
    · rcases hZ c hc with z | z
      · exact absurd z q
      · have hn := (yr c z).1.ne
        rw [rwu_ne _ _ q, ho c q (by omega)]
        exact yr c z
/-- a row is lost -/
theorem rMt.lose {V2 : Nat → Int} {X X2 : Nat → Nat → Int} {r : Nat} (m2 : jM g n V2 X2 h') (b2 : by0 V2) (d2 : DG X2) (y3 : sBn X0 X) (x : X 455 1 = (tx : Int) ∧ X 455 2 = a ∧ X 455 3 = e ∧ X 455 4 = t) (yr : ∀ c, Z c → isRw c ∧ sml (Y c) ∧ ∀ j, j < 13 → X c j = Y c j) (kr : isRw r) (ho : ∀ c, c ≠ r → c = 1 ∨ (2 ≤ c ∧ c < 19) ∨ 455 ≤ c → X2 c = X c) : rMt g n tx X0 (fun c => c ≠ r ∧ Z c) Y t a e h' := by
  have hk := kr.ne
  have e455 := ho 455 (by omega) (Or.inr (Or.inr (by decide)))
  refine ⟨V2, X2, m2, ⟨b2, d2, ?_⟩, by rw [e455]; exact x, fun c hc => ?_⟩
  · have e1 := ho 1 (by omega) (Or.inl rfl)
    exact ⟨by rw [e1]; exact y3.1, by rw [e1]; exact y3.2.1, fun c hc => (ho c (by omega) (by omega)).trans (y3.2.2 c hc)⟩
  · have hn := (yr c hc.2).1.ne
    rw [ho c hc.1 (by omega)]
    exact yr c hc.2
theorem rt_last {i v : Int} {r : Nat} (s : rMt g n tx X0 Z Y t a e h) (zr : Z r) (hc : M.2.2.2.2.1 pc = some (.lastore, r1, r2, r3, r4, r5)) (h0 : 0 ≤ i ∧ i < 13) (hv : v.natAbs ≤ 999999999999999999) (k : ∀ h', rMt g n tx X0 Z (rwu Y r (fun j => if j = i.toNat then v else Y r j)) t a e h' → mj_T D M (pc + 1) loc st h' Q) : mj_T D M pc loc (.long (jl v) :: .int (jn i) :: .ref r :: st) h Q := by
  obtain ⟨V, X, m, ⟨y1, y2, y3⟩, x, yr⟩ := s
  have kr := (yr r zr).1
  have hk := kr.ne
  refine mT_last m kr.k hc h0 (fun h2 m2 => k h2 ?_)
  have eo : ∀ c, c ≠ r → xup X r i.toNat v c = X c := fun c hc => funext fun j => xup_ne _ _ (Or.inl hc)
  refine rMt.row m2 y1 (y2.of (fun p kp => eo p (fun q => by have := kr.k; rw [q] at kp; omega))) y3 x yr kr (fun c hc => Or.inr hc) (fun c hc _ => eo c hc) (fun j hj => ?_) (fun j hj => ?_)
  · show (if j = i.toNat then v else Y r j).natAbs ≤ _
    split
    · exact hv
    · exact (yr r zr).2.1 j hj
  · show xup X r i.toNat v r j = if j = i.toNat then v else Y r j
    by_cases q : j = i.toNat
    · rw [if_pos q, q]
      exact xup_at _ _ _ _
    · rw [if_neg q, xup_ne _ _ (Or.inr q)]
      exact (yr r zr).2.2 j hj
theorem rt_165 {r : Nat} (s : rMt g n tx X0 Z Y t a e h) (kr : isRw r) (hZ : ∀ c, Z' c → c = r ∨ Z c) : mj_Ok (D + 1) 165 [.ref r] h (fun z => ∃ h2, rMt g n tx X0 Z' (rwu Y r (fun _ => 0)) t a e h2 ∧ z = (.inl none, h2)) := by
  obtain ⟨V, X, m, ⟨y1, y2, y3⟩, x, yr⟩ := s
  have hk := kr.ne
  refine (mS_clear (D := D) m kr.k).to (fun z hz => ?_)
  obtain ⟨h2, m2, rfl⟩ := hz
  have eo : ∀ c, c ≠ r → xfl X r (fun _ => 0) 13 c = X c := fun c hc => xfl_off _ _ _ hc
  exact ⟨h2, rMt.row m2 y1 (y2.of (fun p kp => eo p (fun q => by have := kr.k; rw [q] at kp; omega))) y3 x yr kr hZ (fun c hc _ => eo c hc) sml_0 (fun j hj => xfl_at _ _ _ hj), rfl⟩
theorem rt_164 {r q : Nat} (s : rMt g n tx X0 Z Y t a e h) (zq : Z q) (kr : isRw r) (hZ : ∀ c, Z' c → c = r ∨ Z c) : mj_Ok (D + 1) 164 [.ref q, .ref r] h (fun z => ∃ h2, rMt g n tx X0 Z' (rwu Y r (Y q)) t a e h2 ∧ z = (.inl none, h2)) := by
  obtain ⟨V, X, m, ⟨y1, y2, y3⟩, x, yr⟩ := s
  have kq := (yr q zq).1
  have hk := kr.ne
  refine (mS_copy (D := D) m kq.k kr.k).to (fun z hz => ?_)
  obtain ⟨h2, m2, rfl⟩ := hz
  have eo : ∀ c, c ≠ r → xfl X r (X q) 13 c = X c := fun c hc => xfl_off _ _ _ hc
  exact ⟨h2, rMt.row m2 y1 (y2.of (fun p kp => eo p (fun q => by have := kr.k; rw [q] at kp; omega))) y3 x yr kr hZ (fun c hc _ => eo c hc) (yr q zq).2.1 (fun j hj => (xfl_at _ _ _ hj).trans ((yr q zq).2.2 j hj)), rfl⟩
theorem rt_164l {r q : Nat} (s : rMt g n tx X0 Z Y t a e h) (kq : isRw q) (kr : isRw r) : mj_Ok (D + 1) 164 [.ref q, .ref r] h (fun z => ∃ h2, rMt g n tx X0 (fun _ => False) Y t a e h2 ∧ z = (.inl none, h2)) := by
  obtain ⟨V, X, m, ⟨y1, y2, y3⟩, x, yr⟩ := s
  have hk := kr.ne
  refine (mS_copy (D := D) m kq.k kr.k).to (fun z hz => ?_)
  obtain ⟨h2, m2, rfl⟩ := hz
  have eo : ∀ c, c ≠ r → xfl X r (X q) 13 c = X c := fun c hc => xfl_off _ _ _ hc
  have z := rMt.lose m2 y1 (y2.of (fun p kp => eo p (fun q => by have := kr.k; rw [q] at kp; omega))) y3 x yr kr (fun c hc _ => eo c hc)
  exact ⟨h2, z.mono (fun c hc => hc.elim), rfl⟩
/-- what an operation leaves in a row: its result, or nothing is told -/
def rOt (g : mj_H) (n tx : Nat) (X0 : Nat → Nat → Int) (Z : Nat → Prop) (Y : Nat → Nat → Int) (r : Nat) (ok : Prop) (w : Nat → Int) (t a e : Int) (z : mj_R) : Prop := ∃ h2, (ok ∧ rMt g n tx X0 Z (rwu Y r w) t a e h2 ∧ z = (.inl (some (.int (jn 1))), h2)) ∨ (¬ ok ∧ rMt g n tx X0 (fun c => c ≠ r ∧ Z c) Y t a e h2 ∧ z = (.inl (some (.int (jn 0))), h2))
theorem rt_167 {p q : Nat} {f : Int} (s : rMt g n tx X0 Z Y t a e h) (zp : Z p) (zq : Z q) (hf : f = 1 ∨ f = -1) : mj_Ok (D + 2) 167 [.ref p, .ref q, .int (jn f), .ref p] h (rOt g n tx X0 Z Y p (sml (fun j => Y p j + f * Y q j)) (fun j => Y p j + f * Y q j) t a e) := by
  obtain ⟨V, X, m, ⟨y1, y2, y3⟩, x, yr⟩ := s
  have kp := (yr p zp).1
  have hk := kp.ne
  have sm : ∀ c, Z c → sml (X c) := fun c hc => sml_cg (fun j hj => ((yr c hc).2.2 j hj).symm) (yr c hc).2.1
  have ee : ∀ j, j < 13 → X p j + f * X q j = Y p j + f * Y q j := fun j hj => by rw [(yr p zp).2.2 j hj, (yr q zq).2.2 j hj]
  refine (mS_sum (D := D) m kp.k (yr q zq).1.k kp.k (sm p zp) (sm q zq) hf).to (fun z hz => ?_)
  obtain ⟨h2, m2, hz⟩ := hz
  have eo : ∀ c, c ≠ p → xfl X p (fun e => X p e + f * X q e) 13 c = X c := fun c hc => xfl_off _ _ _ hc
  have dd := y2.of (fun c kc => eo c (fun w => by have := kp.k; rw [w] at kc; omega))
  rcases hz with ⟨z1, rfl⟩ | ⟨z1, rfl⟩
  · have z2 := sml_cg ee z1
    exact ⟨h2, Or.inl ⟨z2, rMt.row m2 y1 dd y3 x yr kp (fun c hc => Or.inr hc) (fun c hc _ => eo c hc) z2 (fun j hj => (xfl_at _ _ _ hj).trans (ee j hj)), rfl⟩⟩
  · exact ⟨h2, Or.inr ⟨fun w => z1 (sml_cg (fun j hj => (ee j hj).symm) w), rMt.lose m2 y1 dd y3 x yr kp (fun c hc _ => eo c hc), rfl⟩⟩
theorem rt_11 {p q : Nat} (s : rMt g n tx X0 Z Y t a e h) (zp : Z p) (zq : Z q) : mj_Ok (D + 4) 11 [.ref 19, .ref p, .ref q, .ref p] h (rOt g n tx X0 Z Y p (fit13 (pz_mul (rw13 (Y p)) (rw13 (Y q)))) (pz_mul (rw13 (Y p)) (rw13 (Y q))) t a e) := by
  obtain ⟨V, X, m, ⟨y1, y2, y3⟩, x, yr⟩ := s
  have kp := (yr p zp).1
  have hk := kp.ne
  have sm : ∀ c, Z c → sml (X c) := fun c hc => sml_cg (fun j hj => ((yr c hc).2.2 j hj).symm) (yr c hc).2.1
  refine (mD_mulRows (D := D) m kp.k (yr q zq).1.k (sm p zp) (sm q zq) kp.k).to (fun z hz => ?_)
  rw [rw13_cg (yr p zp).2.2, rw13_cg (yr q zq).2.2] at hz
  obtain ⟨V2, X2, h2, m2, df, xf, hz⟩ := hz
  have eo : ∀ c, c ≠ p → c = 1 ∨ (2 ≤ c ∧ c < 19) ∨ 455 ≤ c → X2 c = X c := fun c hc hh => xf.1 c (by omega) (by omega) (by omega) (by omega) hc
  rcases hz with ⟨z1, rfl, hx⟩ | ⟨z1, rfl⟩
  · exact ⟨h2, Or.inl ⟨z1, rMt.row m2 (y1.dF df) (DG_xFr kp y2 xf) y3 x yr kp (fun c hc => Or.inr hc) eo z1.1 hx, rfl⟩⟩
  · exact ⟨h2, Or.inr ⟨z1, rMt.lose m2 (y1.dF df) (DG_xFr kp y2 xf) y3 x yr kp eo, rfl⟩⟩
theorem rt_12 {p z : Nat} (s : rMt g n tx X0 Z Y t a e h) (zp : Z p) (hz : z ≤ 12) : mj_Ok (D + 4) 12 [.ref 19, .ref p, .int (jn (z : Int)), .ref p] h (rOt g n tx X0 Z Y p (fit13 (pw (rw13 (Y p)) z)) (pw (rw13 (Y p)) z) t a e) := by
  obtain ⟨V, X, m, ⟨y1, y2, y3⟩, x, yr⟩ := s
  have kp := (yr p zp).1
  have hk := kp.ne
  have sm : ∀ c, Z c → sml (X c) := fun c hc => sml_cg (fun j hj => ((yr c hc).2.2 j hj).symm) (yr c hc).2.1
  refine (mD_raise (D := D) m kp.k kp.k (sm p zp) (e := z) hz (y1.p cq_d80)).to (fun z hz => ?_)
  rw [rw13_cg (yr p zp).2.2] at hz
  obtain ⟨V2, X2, h2, m2, df, xf, hz⟩ := hz
  have eo : ∀ c, c ≠ p → c = 1 ∨ (2 ≤ c ∧ c < 19) ∨ 455 ≤ c → X2 c = X c := fun c hc hh => xf.1 c (by omega) (by omega) (by omega) (by omega) hc
  rcases hz with ⟨z1, rfl, hx⟩ | ⟨z1, rfl⟩
  · exact ⟨h2, Or.inl ⟨z1, rMt.row m2 (y1.dF df) (DG_xFr kp y2 xf) y3 x yr kp (fun c hc => Or.inr hc) eo z1.1 hx, rfl⟩⟩
  · exact ⟨h2, Or.inr ⟨z1, rMt.lose m2 (y1.dF df) (DG_xFr kp y2 xf) y3 x yr kp eo, rfl⟩⟩
theorem rt_48 {b k : Nat} (s : rMt g n tx X0 Z Y t a e h) (hb : b = 456 ∨ b = 466) (hk : k ≤ 8) : mj_Ok (D + 1) 48 [.ref b, .int (jn (k : Int))] h (fun z => z = (.inl (some (.ref (b + 1 + k))), h)) := by
  obtain ⟨V, X, m, _, _, _⟩ := s
  have kb : cK b = 6 ∧ cL b = 9 := by
    rcases hb with rfl | rfl
    · exact ⟨cq_456.1, cq_456.2.1⟩
    · exact ⟨cq_456.2.2.1, cq_456.2.2.2.1⟩
  refine mj_Ok.of (M := mj_m48) (loc := [some (.ref b), some (.int (jn (k : Int)))]) rfl rfl rfl ?_
  iterate 2 refine mj_T.pl rfl rfl rfl rfl ?_
  refine mj_T.if0 (a := (k : Int)) rfl ⟨by omega, by omega⟩ (fun c => ?_) (fun _ => ?_)
  · simp only [jc, decide_eq_true_eq] at c
    omega
  iterate 2 refine mj_T.pl rfl rfl rfl rfl ?_
  refine mT_alen m 6 kb.1 (by decide) rfl ?_
  refine mj_T.icmp (a := (k : Int)) (b := ((cL b : Nat) : Int)) rfl ⟨by omega, by omega⟩ ⟨by omega, by omega⟩ (fun c => ?_) (fun _ => ?_)
  · simp only [jc, Bool.not_eq_true', Bool.not_eq_false', decide_eq_true_eq, decide_eq_false_iff_not] at c
    have := kb.2
    omega
  iterate 2 refine mj_T.pl rfl rfl rfl rfl ?_
  refine mT_aald m 6 kb.1 (by decide) rfl rfl (by omega) ⟨by omega, by omega⟩ ?_
  exact mj_T.ret rfl rfl rfl (by
    rw [Int.toNat_natCast]
    rfl)
end RMBt
/-! The class's reader over the memory: blanks, signs, numbers. -/
section JRD2t
variable {D tm n tx : Nat} {T : Nat → Int} {g h h' : mj_H} {a e t : Int} {X0 Y : Nat → Nat → Int} {Z : Nat → Prop}
variable {pc : Nat} {M : mj_M} {loc : mj_L} {st : List Value} {Q : mj_R → Prop} {r1 r2 r3 r4 r5 : Nat}
theorem rt_at {p : Nat} {m : Nat} (s : rMt g n tx X0 Z Y t (p : Int) e h) (hB : bXt tx X0 tm T) (ht : tm ≤ 340) (hT : ∀ j : Nat, j < tm → 0 ≤ T j ∧ T j ≤ 255) (hp : p ≤ 340) (hc : M.2.2.2.2.1 pc = some (.invokevirtual m, 79, 2, r3, r4, 7)) (hk : mj_kind (.invokevirtual m) r3 = 3) (hcat : mj_cat st ≤ 8) (k : mj_T (D + 1) M (pc + 3) loc (.int (jn (rvt T tm p)) :: st) h Q) : mj_T (D + 1) M pc loc (.int (jn (p : Int)) :: .ref tx :: st) h Q := by
  have b := s.jBt hB
  refine mj_T.call hc hk (Nat.le_add_left _ _) hcat (by simp [mj_recv, b.1]) rfl (rq_att (D := D) b ht hT ⟨by omega, by omega⟩) (fun v h' hq => ?_) (fun i h' hq => by cases hq)
  cases hq
  have e : (if 0 ≤ (p : Int) ∧ (p : Int) < (tm : Int) then T (p : Int).toNat else -1) = rvt T tm p := by
    unfold rvt
    rw [Int.toNat_natCast]
    by_cases c : p < tm
    · rw [if_pos c, if_pos ⟨by omega, by omega⟩]
    · rw [if_neg c, if_neg (by omega)]
  rw [e]
  exact k
theorem rt_skips_loop (hB : bXt tx X0 tm T) (ht : tm ≤ 340) (hT : ∀ j : Nat, j < tm → 0 ≤ T j ∧ T j ≤ 255) {Q : mj_R → Prop} : ∀ (m p i : Nat) (h : mj_H), p + m = tm → i ≤ p → rMt g n tx X0 Z Y t (p : Int) e h → (∀ h2, rMt g n tx X0 Z Y t (rsk T m p : Nat) e h2 → Q (.inl none, h2)) → mj_T (D + 1) mj_m56 2 [some (.ref 455), some (.int (jn (i : Int)))] [] h Q := by
  intro m
  induction m with
  | zero =>
    intro p i h hp hi s hend
    have b := s.jBt hB
    iterate 2 refine mj_T.pl rfl rfl rfl rfl ?_
    refine rt_g s rfl rfl ?_
    refine mj_T.gfl rfl b.1 rfl ?_
    refine mj_T.icmp (a := (i : Int)) (b := (tm : Int)) rfl ⟨by omega, by omega⟩ ⟨by omega, by omega⟩ (fun _ => mj_T.ret rfl rfl rfl (hend h s)) (fun _ => ?_)
    refine mj_T.pl rfl rfl rfl rfl ?_
    refine rt_g s rfl rfl ?_
    refine mj_T.pl rfl rfl rfl rfl ?_
    refine rt_g s rfl rfl ?_
    refine rt_at s hB ht hT (by omega) rfl rfl (Nat.le_of_ble_eq_true rfl) ?_
    rw [show rvt T tm p = -1 from if_neg (by omega)]
    refine mj_T.pl rfl rfl rfl rfl ?_
    refine mj_T.icmp (a := -1) (b := 32) rfl ⟨by decide, by decide⟩ ⟨by decide, by decide⟩ (fun _ => mj_T.ret rfl rfl rfl (hend h s)) (fun c => absurd c (by decide))
  | succ m ih =>
    intro p i h hp hi s hend
    have b := s.jBt hB
    have hTp := hT p (by omega)
    iterate 2 refine mj_T.pl rfl rfl rfl rfl ?_
    refine rt_g s rfl rfl ?_
    refine mj_T.gfl rfl b.1 rfl ?_
    refine mj_T.icmp (a := (i : Int)) (b := (tm : Int)) rfl ⟨by omega, by omega⟩ ⟨by omega, by omega⟩ (fun c => ?_) (fun _ => ?_)
    · have c := of_decide_eq_true c
      omega
    refine mj_T.pl rfl rfl rfl rfl ?_
    refine rt_g s rfl rfl ?_
    refine mj_T.pl rfl rfl rfl rfl ?_
    refine rt_g s rfl rfl ?_
    refine rt_at s hB ht hT (by omega) rfl rfl (Nat.le_of_ble_eq_true rfl) ?_
    rw [show rvt T tm p = T p from if_pos (by omega)]
    refine mj_T.pl rfl rfl rfl rfl ?_
    refine mj_T.icmp (a := T p) (b := 32) rfl ⟨by omega, by omega⟩ ⟨by decide, by decide⟩ (fun c => ?_) (fun c => ?_)
    · simp only [jc, Bool.not_eq_true', decide_eq_false_iff_not] at c
      rw [show rsk T (m + 1) p = p from if_neg c] at hend
      exact mj_T.ret rfl rfl rfl (hend h s)
    · simp only [jc, Bool.not_eq_false', decide_eq_true_eq] at c
      rw [show rsk T (m + 1) p = rsk T m (p + 1) from if_pos c] at hend
      iterate 2 refine mj_T.pl rfl rfl rfl rfl ?_
      refine rt_g s rfl rfl ?_
      refine mj_T.pl rfl rfl rfl rfl ?_
      refine mj_T.iadd (a := (p : Int)) (b := 1) rfl ?_
      rw [show (p : Int) + 1 = ((p + 1 : Nat) : Int) by omega]
      refine rt_p2 s rfl (fun h1 s1 => ?_)
      refine mj_T.iinc (a := (i : Int)) rfl rfl ?_
      refine mj_T.eq (loc2 := [some (.ref 455), some (.int (jn ((i + 1 : Nat) : Int)))]) ?_ rfl (by rw [show ((i + 1 : Nat) : Int) = (i : Int) + 1 by omega]; rfl) rfl rfl
      refine mj_T.pl rfl rfl rfl rfl ?_
      exact ih (p + 1) (i + 1) h1 (by omega) (by omega) s1 hend
theorem rt_skips {p : Nat} (hB : bXt tx X0 tm T) (ht : tm ≤ 340) (hT : ∀ j : Nat, j < tm → 0 ≤ T j ∧ T j ≤ 255) (hp : p ≤ tm) (s : rMt g n tx X0 Z Y t (p : Int) e h) : mj_Ok (D + 2) 56 [.ref 455] h (fun r => ∃ h2, rMt g n tx X0 Z Y t (rskp T tm p : Nat) e h2 ∧ r = (.inl none, h2)) := by
  refine mj_Ok.of (M := mj_m56) (loc := [some (.ref 455), none]) rfl rfl rfl ?_
  iterate 2 refine mj_T.pl rfl rfl rfl rfl ?_
  refine rt_skips_loop (D := D) hB ht hT (tm - p) p 0 h (by omega) (Nat.zero_le _) s (fun h2 s2 => ⟨h2, s2, rfl⟩)
theorem rt_takes {p : Nat} {c : Int} (hc : 1 ≤ c ∧ c ≤ 255) (hB : bXt tx X0 tm T) (ht : tm ≤ 340) (hT : ∀ j : Nat, j < tm → 0 ≤ T j ∧ T j ≤ 255) (hp : p ≤ tm) (s : rMt g n tx X0 Z Y t (p : Int) e h) : mj_Ok (D + 3) 57 [.ref 455, .int (jn c)] h (fun r => (∃ (b : Nat) (h2 : mj_H), (rtk T tm c p = some b ∧ b ≤ tm ∧ p < b) ∧ rMt g n tx X0 Z Y t (b : Int) e h2 ∧ r = (.inl (some (.int (jn 1))), h2)) ∨ (∃ h2, rtk T tm c p = none ∧ rMt g n tx X0 Z Y t (rskp T tm p : Nat) e h2 ∧ r = (.inl (some (.int (jn 0))), h2))) := by
  refine mj_Ok.of (M := mj_m57) (loc := [some (.ref 455), some (.int (jn c))]) rfl rfl rfl ?_
  have hle := rskp_le (T := T) hp
  have hge := rskp_ge (T := T) (tm := tm) p
  refine mj_T.pl rfl rfl rfl rfl ?_
  refine mj_T.call rfl rfl (Nat.le_of_ble_eq_true rfl) (Nat.le_of_ble_eq_true rfl) (s.rv (by decide) rfl _) rfl (rt_skips (D := D) hB ht hT hp s) (fun v h1 hq => ?_) (fun i h1 hq => by obtain ⟨_, _, hq⟩ := hq; cases hq)
  obtain ⟨_, s1, hq⟩ := hq
  cases hq
  obtain ⟨q, hqd⟩ : ∃ q, rskp T tm p = q := ⟨_, rfl⟩
  rw [hqd] at s1 hle hge ⊢
  refine mj_T.pl rfl rfl rfl rfl ?_
  refine rt_g s1 rfl rfl ?_
  refine mj_T.pl rfl rfl rfl rfl ?_
  refine rt_g s1 rfl rfl ?_
  refine rt_at s1 hB ht hT (by omega) rfl rfl (Nat.le_of_ble_eq_true rfl) ?_
  have hb := rvt_bd0 (tm := tm) hT q
  refine mj_T.pl rfl rfl rfl rfl ?_
  refine mj_T.icmp (a := rvt T tm q) (b := c) rfl ⟨by omega, by omega⟩ ⟨by omega, by omega⟩ (fun hc2 => ?_) (fun hc2 => ?_)
  · simp only [jc, decide_eq_true_eq] at hc2
    have hlt : q < tm ∧ T q = c := by
      unfold rvt at hc2
      by_cases c1 : q < tm
      · rw [if_pos c1] at hc2
        exact ⟨c1, hc2⟩
      · rw [if_neg c1] at hc2
        omega
    iterate 2 refine mj_T.pl rfl rfl rfl rfl ?_
    refine rt_g s1 rfl rfl ?_
    refine mj_T.pl rfl rfl rfl rfl ?_
    refine mj_T.iadd (a := (q : Int)) (b := 1) rfl ?_
    rw [show (q : Int) + 1 = ((q + 1 : Nat) : Int) by omega]
    refine rt_p2 s1 rfl (fun h2 s2 => ?_)
    refine mj_T.pl rfl rfl rfl rfl ?_
    exact mj_T.ret rfl rfl rfl (Or.inl ⟨q + 1, h2, ⟨by unfold rtk; rw [hqd, if_pos hlt], by omega, by omega⟩, s2, rfl⟩)
  · simp only [jc, decide_eq_false_iff_not] at hc2
    refine mj_T.pl rfl rfl rfl rfl ?_
    refine mj_T.ret rfl rfl rfl (Or.inr ⟨h1, ?_, s1, rfl⟩)
    unfold rtk
    rw [hqd, if_neg]
    intro hn
    exact hc2 (by rw [show rvt T tm q = T q from if_pos hn.1]; exact hn.2)
theorem rt_num_loop (hB : bXt tx X0 tm T) (ht : tm ≤ 340) (hT : ∀ j : Nat, j < tm → 0 ≤ T j ∧ T j ≤ 255) {s0 : Nat} {Q : mj_R → Prop} : ∀ (m k : Nat) (h : mj_H), s0 + k + m = tm → rMt g n tx X0 Z Y t ((s0 + k : Nat) : Int) e h → (∀ (k2 : Nat) (h2 : mj_H) (l4 : Option Value), s0 + k2 = rdg T m (s0 + k) → rMt g n tx X0 Z Y t ((s0 + k2 : Nat) : Int) e h2 → mj_T (D + 1) mj_m54 78 [some (.ref 455), some (.int (jn (s0 : Int))), some (.long (jl (rvl T s0 k2))), none, l4] [] h2 Q) → mj_T (D + 1) mj_m54 10 [some (.ref 455), some (.int (jn (s0 : Int))), some (.long (jl (rvl T s0 k))), none, some (.int (jn (k : Int)))] [] h Q := by
  intro m
  induction m with
  | zero =>
    intro k h hk s hend
    have b := s.jBt hB
    iterate 2 refine mj_T.pl rfl rfl rfl rfl ?_
    refine rt_g s rfl rfl ?_
    refine mj_T.gfl rfl b.1 rfl ?_
    refine mj_T.icmp (a := (k : Int)) (b := (tm : Int)) rfl ⟨by omega, by omega⟩ ⟨by omega, by omega⟩ (fun _ => hend k h _ rfl s) (fun _ => ?_)
    refine mj_T.pl rfl rfl rfl rfl ?_
    refine rt_g s rfl rfl ?_
    refine mj_T.pl rfl rfl rfl rfl ?_
    refine rt_g s rfl rfl ?_
    refine rt_at s hB ht hT (by omega) rfl rfl (Nat.le_of_ble_eq_true rfl) ?_
    rw [show rvt T tm (s0 + k) = -1 from if_neg (by omega)]
    refine mj_T.call rfl rfl (Nat.le_of_ble_eq_true rfl) (Nat.le_of_ble_eq_true rfl) rfl rfl (rq_isDigit (D := D) (v := -1) ⟨by decide, by decide⟩) (fun v' h' hq' => ?_) (fun i h' hq' => by rcases hq' with ⟨_, h⟩ | ⟨_, h⟩ <;> cases h)
    rcases hq' with ⟨hd, _⟩ | ⟨_, hq'⟩
    · omega
    cases hq'
    refine mj_T.if0 (a := 0) rfl ⟨by decide, by decide⟩ (fun _ => hend k h _ rfl s) (fun hc2 => by simp [jc] at hc2)
  | succ m ih =>
    intro k h hk s hend
    have b := s.jBt hB
    have hTa := hT (s0 + k) (by omega)
    iterate 2 refine mj_T.pl rfl rfl rfl rfl ?_
    refine rt_g s rfl rfl ?_
    refine mj_T.gfl rfl b.1 rfl ?_
    refine mj_T.icmp (a := (k : Int)) (b := (tm : Int)) rfl ⟨by omega, by omega⟩ ⟨by omega, by omega⟩ (fun c => ?_) (fun _ => ?_)
    · have c := of_decide_eq_true c
      omega
    refine mj_T.pl rfl rfl rfl rfl ?_
    refine rt_g s rfl rfl ?_
    refine mj_T.pl rfl rfl rfl rfl ?_
    refine rt_g s rfl rfl ?_
    refine rt_at s hB ht hT (by omega) rfl rfl (Nat.le_of_ble_eq_true rfl) ?_
    rw [show rvt T tm (s0 + k) = T (s0 + k) from if_pos (by omega)]
    refine mj_T.call rfl rfl (Nat.le_of_ble_eq_true rfl) (Nat.le_of_ble_eq_true rfl) rfl rfl (rq_isDigit (D := D) (v := T (s0 + k)) ⟨by omega, by omega⟩) (fun v' h' hq' => ?_) (fun i h' hq' => by rcases hq' with ⟨_, h⟩ | ⟨_, h⟩ <;> cases h)
    rcases hq' with ⟨hd, hq'⟩ | ⟨hd, hq'⟩
    · cases hq'
      rw [show rdg T (m + 1) (s0 + k) = rdg T m (s0 + k + 1) from if_pos hd] at hend
      refine mj_T.if0 (a := 1) rfl ⟨by decide, by decide⟩ (fun hc2 => by simp [jc] at hc2) (fun _ => ?_)
      iterate 2 refine mj_T.pl rfl rfl rfl rfl ?_
      refine mj_T.eq (pc2 := 43) (st2 := [.long (jl 10), .long (jl (rvl T s0 k))]) ?_ rfl rfl rfl rfl
      refine mj_T.lmul rfl ?_
      refine mj_T.pl rfl rfl rfl rfl ?_
      refine rt_g s rfl rfl ?_
      refine mj_T.pl rfl rfl rfl rfl ?_
      refine rt_g s rfl rfl ?_
      refine rt_at s hB ht hT (by omega) rfl rfl (Nat.le_of_ble_eq_true rfl) ?_
      rw [show rvt T tm (s0 + k) = T (s0 + k) from if_pos (by omega)]
      refine mj_T.i2l rfl ⟨by omega, by omega⟩ ?_
      refine mj_T.ladd rfl ?_
      refine mj_T.pl rfl rfl rfl rfl ?_
      refine mj_T.lsub (b := 48) rfl ?_
      rw [show rvl T s0 k * 10 + T (s0 + k) - 48 = rvl T s0 (k + 1) by show _ = 10 * rvl T s0 k + T (s0 + k) - 48; omega]
      refine mj_T.pl (loc' := [some (.ref 455), some (.int (jn (s0 : Int))), some (.long (jl (rvl T s0 (k + 1)))), none, some (.int (jn (k : Int)))]) rfl rfl rfl rfl ?_
      iterate 2 refine mj_T.pl rfl rfl rfl rfl ?_
      refine rt_g s rfl rfl ?_
      refine mj_T.pl rfl rfl rfl rfl ?_
      refine mj_T.iadd (a := ((s0 + k : Nat) : Int)) (b := 1) rfl ?_
      rw [show ((s0 + k : Nat) : Int) + 1 = ((s0 + (k + 1) : Nat) : Int) by omega]
      refine rt_p2 s rfl (fun h1 s1 => ?_)
      refine mj_T.iinc (a := (k : Int)) rfl rfl ?_
      refine mj_T.eq (loc2 := [some (.ref 455), some (.int (jn (s0 : Int))), some (.long (jl (rvl T s0 (k + 1)))), none, some (.int (jn ((k + 1 : Nat) : Int)))]) ?_ rfl (by rw [show ((k + 1 : Nat) : Int) = (k : Int) + 1 by omega]; rfl) rfl rfl
      refine mj_T.pl rfl rfl rfl rfl ?_
      exact ih (k + 1) h1 (by omega) s1 hend
    · cases hq'
      rw [show rdg T (m + 1) (s0 + k) = s0 + k from if_neg hd] at hend
      refine mj_T.if0 (a := 0) rfl ⟨by decide, by decide⟩ (fun _ => hend k h _ rfl s) (fun hc2 => by simp [jc] at hc2)
theorem rt_number {p : Nat} (hB : bXt tx X0 tm T) (ht : tm ≤ 340) (hT : ∀ j : Nat, j < tm → 0 ≤ T j ∧ T j ≤ 255) (hp : p ≤ tm) (s : rMt g n tx X0 Z Y t (p : Int) (-1) h) : mj_Ok (D + 2) 54 [.ref 455] h (fun r => ∃ (k : Nat) (h2 : mj_H), rdgp T tm p = p + k ∧ p + k ≤ tm ∧ ((k ≤ 18 ∧ rMt g n tx X0 Z Y t ((p + k : Nat) : Int) (-1) h2 ∧ r = (.inl (some (.long (jl (rvl T p k)))), h2)) ∨ (18 < k ∧ rMt g n tx X0 Z Y t ((p + k : Nat) : Int) (p : Int) h2 ∧ r = (.inl (some (.long (jl 0))), h2)))) := by
  refine mj_Ok.of (M := mj_m54) (loc := [some (.ref 455), none, none, none, none]) rfl rfl rfl ?_
  refine mj_T.pl rfl rfl rfl rfl ?_
  refine rt_g s rfl rfl ?_
  refine mj_T.pl (loc' := [some (.ref 455), some (.int (jn (p : Int))), none, none, none]) rfl rfl rfl rfl ?_
  iterate 4 refine mj_T.pl rfl rfl rfl rfl ?_
  refine rt_num_loop (D := D) hB ht hT (tm - p) 0 h (by omega) s (fun k h2 l4 hk s2 => ?_)
  have hdl := rdg_le (T := T) (tm - p) (p + 0)
  rw [← hk] at hdl
  refine mj_T.pl rfl rfl rfl rfl ?_
  refine rt_g s2 rfl rfl ?_
  refine mj_T.pl rfl rfl rfl rfl ?_
  refine mj_T.isub (a := ((p + k : Nat) : Int)) (b := (p : Int)) rfl ?_
  rw [show ((p + k : Nat) : Int) - (p : Int) = (k : Int) by omega]
  refine mj_T.pl rfl rfl rfl rfl ?_
  refine mj_T.icmp (a := (k : Int)) (b := 18) rfl ⟨by omega, by omega⟩ ⟨by decide, by decide⟩ (fun c => ?_) (fun c => ?_)
  · have c := of_decide_eq_true c
    refine mj_T.pl rfl rfl rfl rfl ?_
    exact mj_T.ret rfl rfl rfl ⟨k, h2, hk.symm, by omega, Or.inl ⟨by omega, s2, rfl⟩⟩
  · have c := of_decide_eq_false c
    iterate 2 refine mj_T.pl rfl rfl rfl rfl ?_
    refine rt_p3 s2 rfl (fun h3 s3 => ?_)
    refine mj_T.pl rfl rfl rfl rfl ?_
    exact mj_T.ret rfl rfl rfl ⟨k, h3, hk.symm, by omega, Or.inr ⟨by omega, s3, rfl⟩⟩
end JRD2t
section JRE2t
variable {D tm n tx : Nat} {T : Nat → Int} {g h h' : mj_H} {a e t : Int} {X0 Y : Nat → Nat → Int} {Z : Nat → Prop}
/-- how a piece of the reading ends -/
def rQt (T : Nat → Int) (tm : Nat) (g : mj_H) (n tx : Nat) (X0 : Nat → Nat → Int) (Z : Nat → Prop) (a : Nat) (res : Bool × Nat) (V : Option Value → Prop) (U : (Nat → Nat → Int) → Int → Option Value → Prop) (r : mj_R) : Prop := ∃ (v : Option Value) (b : Nat) (h2 : mj_H) (Y2 : Nat → Nat → Int) (t2 : Int), r = (.inl v, h2) ∧ V v ∧ b ≤ tm ∧ ((res.1 = true ∧ b = res.2 ∧ a ≤ b ∧ rMt g n tx X0 Z Y2 t2 (b : Int) (-1) h2 ∧ U Y2 t2 v) ∨ (res.1 = false ∧ res.2 ≤ tm ∧ rMt g n tx X0 (fun _ => False) Y2 t2 (b : Int) (res.2 : Int) h2))
theorem rQt.le {a a' : Nat} {res : Bool × Nat} {V : Option Value → Prop} {U U' : (Nat → Nat → Int) → Int → Option Value → Prop} {r : mj_R} (q : rQt T tm g n tx X0 Z a' res V U r) (hl : a ≤ a') (hU : ∀ Y2 t2 v, U Y2 t2 v → U' Y2 t2 v) : rQt T tm g n tx X0 Z a res V U' r := by
  obtain ⟨v, b, h2, Y2, t2, q1, q2, q3, q4⟩ := q
  refine ⟨v, b, h2, Y2, t2, q1, q2, q3, ?_⟩
  rcases q4 with ⟨x1, x2, x3, x4, x5⟩ | x
  · exact Or.inl ⟨x1, x2, by omega, x4, hU _ _ _ x5⟩
  · exact Or.inr x
theorem rt_exponent {p : Nat} (hB : bXt tx X0 tm T) (ht : tm ≤ 340) (hT : ∀ j : Nat, j < tm → 0 ≤ T j ∧ T j ≤ 255) (hp : p ≤ tm) (s : rMt g n tx X0 Z Y t (p : Int) (-1) h) : mj_Ok (D + 3) 53 [.ref 455] h (rQt T tm g n tx X0 Z p (rnm T tm 12 p) rV (fun Y2 t2 v => Y2 = Y ∧ t2 = t ∧ ∃ z : Int, v = some (.int (jn z)) ∧ (0 ≤ z ∧ z ≤ 12) ∧ z = rnv T tm p)) := by
  refine mj_Ok.of (M := mj_m53) (loc := [some (.ref 455), none, none, none]) rfl rfl rfl ?_
  have hle := rskp_le (T := T) hp
  have hge := rskp_ge (T := T) (tm := tm) p
  refine mj_T.pl rfl rfl rfl rfl ?_
  refine mj_T.call rfl rfl (Nat.le_of_ble_eq_true rfl) (Nat.le_of_ble_eq_true rfl) (s.rv (by decide) rfl _) rfl (rt_skips (D := D) hB ht hT hp s) (fun v h1 hq => ?_) (fun i h1 hq => by obtain ⟨_, _, hq⟩ := hq; cases hq)
  obtain ⟨_, s1, hq⟩ := hq
  cases hq
  obtain ⟨q, hqd⟩ : ∃ q, rskp T tm p = q := ⟨_, rfl⟩
  have eV : rnv T tm p = rvl T q (rdgp T tm q - q) := by
    unfold rnv
    rw [hqd]
  have eN : rnm T tm 12 p = if (1 ≤ rdgp T tm q - q ∧ rdgp T tm q - q ≤ 18) ∧ rvl T q (rdgp T tm q - q) ≤ 12 then (true, rdgp T tm q) else (false, q) := by
    unfold rnm
    rw [hqd]
  rw [eN]
  rw [hqd] at s1 hle hge
  refine mj_T.pl rfl rfl rfl rfl ?_
  refine rt_g s1 rfl rfl ?_
  refine mj_T.pl (loc' := [some (.ref 455), some (.int (jn (q : Int))), none, none]) rfl rfl rfl rfl ?_
  refine mj_T.pl rfl rfl rfl rfl ?_
  refine rt_g s1 rfl rfl ?_
  refine mj_T.pl rfl rfl rfl rfl ?_
  refine rt_g s1 rfl rfl ?_
  refine rt_at (D := D + 1) s1 hB ht hT (by omega) rfl rfl (Nat.le_of_ble_eq_true rfl) ?_
  have hb := rvt_bd0 (tm := tm) hT q
  refine mj_T.call rfl rfl (Nat.le_of_ble_eq_true rfl) (Nat.le_of_ble_eq_true rfl) rfl rfl (rq_isDigit (D := D + 1) (v := rvt T tm q) ⟨by omega, by omega⟩) (fun v' h' hq' => ?_) (fun i h' hq' => by rcases hq' with ⟨_, h⟩ | ⟨_, h⟩ <;> cases h)
  rcases hq' with ⟨hd, hq'⟩ | ⟨hd, hq'⟩
  · cases hq'
    have hdig : q < tm ∧ 48 ≤ T q ∧ T q ≤ 57 := by
      unfold rvt at hd
      by_cases c : q < tm
      · rw [if_pos c] at hd
        exact ⟨c, hd⟩
      · rw [if_neg c] at hd
        omega
    refine mj_T.if0 (a := 1) rfl ⟨by decide, by decide⟩ (fun _ => ?_) (fun hc2 => by simp [jc] at hc2)
    refine mj_T.pl rfl rfl rfl rfl ?_
    refine mj_T.call rfl rfl (Nat.le_of_ble_eq_true rfl) (Nat.le_of_ble_eq_true rfl) (s1.rv (by decide) rfl _) rfl (rt_number (D := D) hB ht hT hle s1) (fun v h2 hq => ?_) (fun i h2 hq => by obtain ⟨_, _, _, _, ⟨_, _, hq⟩ | ⟨_, _, hq⟩⟩ := hq <;> cases hq)
    obtain ⟨k, h3, k1, k2, hq⟩ := hq
    have kp := (rdgp_pos k1).mpr hdig
    rw [k1, Nat.add_sub_cancel_left]
    have hin : ∀ j, q ≤ j → j < q + k → 48 ≤ T j ∧ T j ≤ 57 := fun j j1 j2 => rdg_in (T := T) (tm - q) q j j1 (by show j < rdgp T tm q; omega)
    have hbd := rvl_bd (T := T) (s := q) k hin
    rcases hq with ⟨k3, s3, hq⟩ | ⟨k3, s3, hq⟩
    · cases hq
      have hpw : 10 ^ k ≤ 10 ^ 18 := Nat.pow_le_pow_right (by decide) (by omega)
      have hj : jR (rvl T q k) := ⟨by omega, by omega⟩
      refine mj_T.pl (loc' := [some (.ref 455), some (.int (jn (q : Int))), some (.long (jl (rvl T q k))), none]) rfl rfl rfl rfl ?_
      refine mj_T.pl rfl rfl rfl rfl ?_
      refine mj_T.pl rfl rfl rfl rfl ?_
      refine mj_T.eq (st2 := [.long (jl 12), .long (jl (rvl T q k))]) ?_ rfl rfl rfl rfl
      refine mj_T.lif (a := rvl T q k) (b := 12) rfl rfl hj ⟨by decide, by decide⟩ (fun c => ?_) (fun c => ?_)
      · simp only [jc, decide_eq_true_eq] at c
        refine mj_T.pl rfl rfl rfl rfl ?_
        refine mj_T.l2i rfl ?_
        refine mj_T.ret rfl rfl rfl ⟨_, q + k, _, Y, t, rfl, ⟨rvl T q k, ⟨by omega, by omega⟩, rfl⟩, k2, Or.inl ?_⟩
        rw [if_pos ⟨⟨kp, k3⟩, c⟩]
        exact ⟨rfl, rfl, by omega, s3, rfl, rfl, _, rfl, ⟨hbd.1, c⟩, by rw [eV, k1, Nat.add_sub_cancel_left]⟩
      · simp only [jc, decide_eq_false_iff_not] at c
        iterate 2 refine mj_T.pl rfl rfl rfl rfl ?_
        refine rt_p3 s3 rfl (fun h4 s4 => ?_)
        refine mj_T.pl rfl rfl rfl rfl ?_
        refine mj_T.ret rfl rfl rfl ⟨_, q + k, h4, Y, t, rfl, ⟨-1, ⟨by decide, by decide⟩, rfl⟩, k2, Or.inr ?_⟩
        rw [if_neg (fun w => c w.2)]
        exact ⟨rfl, hle, s4.mono (fun c hc => hc.elim)⟩
    · cases hq
      refine mj_T.pl (loc' := [some (.ref 455), some (.int (jn (q : Int))), some (.long (jl 0)), none]) rfl rfl rfl rfl ?_
      refine mj_T.pl rfl rfl rfl rfl ?_
      refine mj_T.pl rfl rfl rfl rfl ?_
      refine mj_T.eq (st2 := [.long (jl 12), .long (jl 0)]) ?_ rfl rfl rfl rfl
      refine mj_T.lif (a := 0) (b := 12) rfl rfl ⟨by decide, by decide⟩ ⟨by decide, by decide⟩ (fun c => ?_) (fun c => by simp [jc] at c)
      refine mj_T.pl rfl rfl rfl rfl ?_
      refine mj_T.l2i rfl ?_
      refine mj_T.ret rfl rfl rfl ⟨_, q + k, _, Y, t, rfl, ⟨0, ⟨by decide, by decide⟩, rfl⟩, k2, Or.inr ?_⟩
      rw [if_neg (fun w => by omega)]
      exact ⟨rfl, hle, s3.mono (fun c hc => hc.elim)⟩
  · cases hq'
    obtain ⟨k, k1⟩ : ∃ k, rdgp T tm q = q + k := ⟨rdgp T tm q - q, by have w : q ≤ rdgp T tm q := rdg_ge (T := T) (tm - q) q; omega⟩
    have k0 : ¬ (1 ≤ k) := fun w => by
      have d := (rdgp_pos k1).mp w
      exact hd (by rw [show rvt T tm q = T q from if_pos d.1]; exact d.2)
    refine mj_T.if0 (a := 0) rfl ⟨by decide, by decide⟩ (fun hc2 => by simp [jc] at hc2) (fun _ => ?_)
    iterate 2 refine mj_T.pl rfl rfl rfl rfl ?_
    refine rt_g s1 rfl rfl ?_
    refine rt_p3 s1 rfl (fun h2 s2 => ?_)
    refine mj_T.pl rfl rfl rfl rfl ?_
    refine mj_T.ret rfl rfl rfl ⟨_, q, h2, Y, t, rfl, ⟨-1, ⟨by decide, by decide⟩, rfl⟩, hle, Or.inr ?_⟩
    rw [k1, Nat.add_sub_cancel_left, if_neg (fun w => k0 w.1.1)]
    exact ⟨rfl, hle, s2.mono (fun c hc => hc.elim)⟩
theorem rt_fin {a p : Nat} {l1 : Option Value} (hB : bXt tx X0 tm T) (ht : tm ≤ 340) (hT : ∀ j : Nat, j < tm → 0 ≤ T j ∧ T j ≤ 255) (hp : p ≤ tm) (hap : a ≤ p) (s : rMt g n tx X0 Z Y t (p : Int) (-1) h) : mj_T (D + 4) mj_m52 135 [some (.ref 455), l1] [] h (rQt T tm g n tx X0 Z a (rex T tm p) rV (UE T tm Y t p)) := by
  have hge := rskp_ge (T := T) (tm := tm) p
  have hle := rskp_le (T := T) hp
  refine mj_T.pl rfl rfl rfl rfl ?_
  refine rt_g s rfl rfl ?_
  refine mj_T.pl rfl rfl rfl rfl ?_
  refine mj_T.icmp (a := -1) (b := -1) rfl ⟨by decide, by decide⟩ ⟨by decide, by decide⟩ (fun c => absurd c (by decide)) (fun _ => ?_)
  iterate 2 refine mj_T.pl rfl rfl rfl rfl ?_
  refine mj_T.call rfl rfl (Nat.le_of_ble_eq_true rfl) (Nat.le_of_ble_eq_true rfl) (s.rv (by decide) rfl _) rfl (rt_takes (D := D + 1) (c := 94) ⟨by decide, by decide⟩ hB ht hT hp s) (fun v h1 hq => ?_) (fun i h1 hq => by rcases hq with ⟨_, _, _, _, hq⟩ | ⟨_, _, _, hq⟩ <;> cases hq)
  rcases hq with ⟨b, _, ⟨b1, b2, b3⟩, s1, hq⟩ | ⟨_, b1, s1, hq⟩
  · cases hq
    refine mj_T.if0 (a := 1) rfl ⟨by decide, by decide⟩ (fun hc2 => by simp [jc] at hc2) (fun _ => ?_)
    refine mj_T.pl rfl rfl rfl rfl ?_
    have er : rex T tm p = rnm T tm 12 b := by unfold rex; rw [b1]
    rw [er]
    refine mj_T.call rfl rfl (Nat.le_of_ble_eq_true rfl) (Nat.le_of_ble_eq_true rfl) (s1.rv (by decide) rfl _) rfl (rt_exponent (D := D + 1) hB ht hT b2 s1) (fun v h2 hq => ?_) (fun i h2 hq => by obtain ⟨_, _, _, _, _, hq, _⟩ := hq; cases hq)
    obtain ⟨v2, c, h3, Y3, t3, hq, hv, c1, c2⟩ := hq
    obtain ⟨z, hz, rfl⟩ := hv
    cases hq
    refine mj_T.pl rfl rfl rfl rfl ?_
    refine mj_T.ret rfl rfl rfl (rQt.le (a' := b) (U := fun Y2 t2 v => Y2 = Y ∧ t2 = t ∧ ∃ z : Int, v = some (.int (jn z)) ∧ (0 ≤ z ∧ z ≤ 12) ∧ z = rnv T tm b) ⟨_, c, _, Y3, t3, rfl, ⟨z, hz, rfl⟩, c1, c2⟩ (by omega) (fun Y2 t2 v hu => ?_))
    obtain ⟨u1, u2, z2, u3, u4, u5⟩ := hu
    exact ⟨u1, u2, z2, u3, ⟨by omega, u4.2⟩, Or.inr ⟨b, b1, u5, u4.1⟩⟩
  · cases hq
    refine mj_T.if0 (a := 0) rfl ⟨by decide, by decide⟩ (fun _ => ?_) (fun hc2 => by simp [jc] at hc2)
    have er : rex T tm p = (true, rskp T tm p) := by unfold rex; rw [b1]
    rw [er]
    refine mj_T.pl rfl rfl rfl rfl ?_
    exact mj_T.ret rfl rfl rfl ⟨_, rskp T tm p, h1, Y, t, rfl, ⟨-1, ⟨by decide, by decide⟩, rfl⟩, hle, Or.inl ⟨rfl, rfl, by omega, s1, rfl, rfl, -1, rfl, ⟨by decide, by decide⟩, Or.inl ⟨b1, rfl⟩⟩⟩
theorem rt_finE {a p x : Nat} {Z2 : Nat → Prop} {U : (Nat → Nat → Int) → Int → Option Value → Prop} {l1 : Option Value} (ht : tm ≤ 340) (hp : p ≤ tm) (hx : x ≤ tm) (s : rMt g n tx X0 Z Y t (p : Int) (x : Int) h) : mj_T (D + 4) mj_m52 135 [some (.ref 455), l1] [] h (rQt T tm g n tx X0 Z2 a (false, x) rV U) := by
  refine mj_T.pl rfl rfl rfl rfl ?_
  refine rt_g s rfl rfl ?_
  refine mj_T.pl rfl rfl rfl rfl ?_
  refine mj_T.icmp (a := (x : Int)) (b := -1) rfl ⟨by omega, by omega⟩ ⟨by decide, by decide⟩ (fun _ => ?_) (fun c => ?_)
  · refine mj_T.pl rfl rfl rfl rfl ?_
    exact mj_T.ret rfl rfl rfl ⟨_, p, h, Y, t, rfl, ⟨-1, ⟨by decide, by decide⟩, rfl⟩, hp, Or.inr ⟨rfl, hx, s.mono (fun c hc => hc.elim)⟩⟩
  · simp only [jc, Bool.not_eq_false', decide_eq_true_eq] at c
    omega
theorem rt_factor {d a f : Nat} {res : Bool × Nat} (hB : bXt tx X0 tm T) (ht : tm ≤ 340) (hT : ∀ j : Nat, j < tm → 0 ≤ T j ∧ T j ≤ 255) (hd : d ≤ 8) {E : Nat} (hE : 5 ≤ E) (htt : t = 0 ∨ t = 1)
    (ih : ∀ d', d = d' + 1 → ∀ (f p : Nat) (h : mj_H) (res : Bool × Nat) (Y : Nat → Nat → Int) (t : Int), (t = 0 ∨ t = 1) → p ≤ tm → rpr0 T tm f 3 d' p = some res → rMt g n tx X0 (zkS (8 - d')) Y t (p : Int) (-1) h → mj_Ok E 49 [.ref 455, .int (jn (8 - (d' : Int)))] h (rQt T tm g n tx X0 (zkP (8 - d')) p res rV0 (US d' Y t (zv0 T tm f 3 d' p none 1))))
    (ha : a ≤ tm) (hf : rpr0 T tm f 0 d a = some res) (s : rMt g n tx X0 (zkF (8 - d)) Y t (a : Int) (-1) h) : mj_Ok (E + 1) 52 [.ref 455, .int (jn (8 - (d : Int)))] h (rQt T tm g n tx X0 (zkG (8 - d)) a res rV (UF d Y t (zv0 T tm f 0 d a none 1))) := by
  obtain ⟨E0, rfl⟩ : ∃ E0, E = E0 + 5 := ⟨E - 5, by omega⟩
  have hge := rskp_ge (T := T) (tm := tm) a
  have hle := rskp_le (T := T) ha
  have hid := rskp_idem (T := T) ha
  obtain ⟨f, rfl⟩ : ∃ f0, f = f0 + 1 := by
    cases f with
    | zero => cases hf
    | succ f0 => exact ⟨f0, rfl⟩
  refine mj_Ok.of (M := mj_m52) (loc := [some (.ref 455), some (.int (jn (8 - (d : Int))))]) rfl rfl rfl ?_
  refine mj_T.pl rfl rfl rfl rfl ?_
  refine rt_g s rfl rfl ?_
  refine mj_T.call rfl rfl (Nat.le_of_ble_eq_true rfl) (Nat.le_of_ble_eq_true rfl) rfl rfl (mj_Ok.up (by omega) (rt_165 (D := 0) (Z' := zkG (8 - d)) s isRw.f (fun c hc => hc.symm))) (fun v h0 hq => ?_) (fun i h0 hq => by obtain ⟨_, _, hq⟩ := hq; cases hq)
  obtain ⟨_, s, hq⟩ := hq
  cases hq
  have y476 : ∀ w : Nat → Int, ∀ c, c ≤ 457 + (8 - d) ∨ (467 ≤ c ∧ c ≤ 467 + (8 - d)) → rwu (rwu Y 476 (fun _ => 0)) 476 w c = Y c := fun w c hc => by
    rw [rwu_ne _ _ (by omega), rwu_ne _ _ (by omega)]
  refine mj_T.pl rfl rfl rfl rfl ?_
  refine mj_T.call rfl rfl (Nat.le_of_ble_eq_true rfl) (Nat.le_of_ble_eq_true rfl) (s.rv (by decide) rfl _) rfl (mj_Ok.up (by omega) (rt_skips (D := 0) hB ht hT ha s)) (fun v h1 hq => ?_) (fun i h1 hq => by obtain ⟨_, _, hq⟩ := hq; cases hq)
  obtain ⟨_, s1, hq⟩ := hq
  cases hq
  obtain ⟨q, hqd⟩ : ∃ q, rskp T tm a = q := ⟨_, rfl⟩
  have eVal : zv0 T tm (f + 1) 0 d a none 1 = if q < tm ∧ T q = 120 then zvx T tm (some pz_x) (q + 1) else if q < tm ∧ T q = 40 then (match rpr0 T tm f 3 (d - 1) (q + 1) with | some (true, c) => (match rtk T tm 41 c with | some e => zvx T tm (zv0 T tm f 3 (d - 1) (q + 1) none 1) e | none => none) | _ => none) else zvx T tm (some (pz_k (rnv T tm a))) (rdgp T tm q) := by
    rw [← hqd]
    rfl
  have eNv : rnv T tm a = rvl T q (rdgp T tm q - q) := by
    unfold rnv
    rw [hqd]
  unfold rpr0 at hf
  rw [hqd] at s1 hle hge hid hf
  refine mj_T.pl rfl rfl rfl rfl ?_
  refine rt_g s1 rfl rfl ?_
  refine mj_T.pl rfl rfl rfl rfl ?_
  refine rt_g s1 rfl rfl ?_
  refine rt_at (D := E0 + 4) s1 hB ht hT (by omega) rfl rfl (Nat.le_of_ble_eq_true rfl) ?_
  have hb := rvt_bd0 (tm := tm) hT q
  refine mj_T.call rfl rfl (Nat.le_of_ble_eq_true rfl) (Nat.le_of_ble_eq_true rfl) rfl rfl (rq_isDigit (D := E0 + 4) (v := rvt T tm q) ⟨by omega, by omega⟩) (fun v' h' hq' => ?_) (fun i h' hq' => by rcases hq' with ⟨_, h⟩ | ⟨_, h⟩ <;> cases h)
  rcases hq' with ⟨hdg, hq'⟩ | ⟨hdg, hq'⟩
  · -- a number
    cases hq'
    have hdig : q < tm ∧ 48 ≤ T q ∧ T q ≤ 57 := by
      unfold rvt at hdg
      by_cases c : q < tm
      · rw [if_pos c] at hdg
        exact ⟨c, hdg⟩
      · rw [if_neg c] at hdg
        omega
    rw [if_neg (by omega), if_neg (by omega)] at hf
    have eN : rnm T tm 9223372036854775807 q = if (1 ≤ rdgp T tm q - q ∧ rdgp T tm q - q ≤ 18) ∧ rvl T q (rdgp T tm q - q) ≤ 9223372036854775807 then (true, rdgp T tm q) else (false, q) := by
      unfold rnm
      rw [hid]
    rw [eN] at hf
    refine mj_T.if0 (a := 1) rfl ⟨by decide, by decide⟩ (fun hc2 => by simp [jc] at hc2) (fun _ => ?_)
    refine mj_T.pl rfl rfl rfl rfl ?_
    refine rt_g s1 rfl rfl ?_
    iterate 2 refine mj_T.pl rfl rfl rfl rfl ?_
    refine mj_T.call rfl rfl (Nat.le_of_ble_eq_true rfl) (Nat.le_of_ble_eq_true rfl) (s1.rv (by decide) rfl _) rfl (mj_Ok.up (by omega) (rt_number (D := 0) hB ht hT hle s1)) (fun v h2 hq => ?_) (fun i h2 hq => by obtain ⟨_, _, _, _, ⟨_, _, hq⟩ | ⟨_, _, hq⟩⟩ := hq <;> cases hq)
    obtain ⟨k, h3, k1, k2, hq⟩ := hq
    have kp := (rdgp_pos k1).mpr hdig
    rw [k1, Nat.add_sub_cancel_left] at hf
    have hin : ∀ j, q ≤ j → j < q + k → 48 ≤ T j ∧ T j ≤ 57 := fun j j1 j2 => rdg_in (T := T) (tm - q) q j j1 (by show j < rdgp T tm q; omega)
    have hbd := rvl_bd (T := T) (s := q) k hin
    rcases hq with ⟨k3, s3, hq⟩ | ⟨k3, s3, hq⟩
    · cases hq
      have hpw : 10 ^ k ≤ 10 ^ 18 := Nat.pow_le_pow_right (by decide) (by omega)
      rw [if_pos ⟨⟨kp, k3⟩, by omega⟩] at hf
      cases hf
      refine rt_last (i := 0) s3 (Or.inr rfl) rfl ⟨by decide, by decide⟩ (by omega) (fun h4 s4 => ?_)
      refine mj_T.pl rfl rfl rfl rfl ?_
      refine mj_T.to (rt_fin hB ht hT k2 (by omega) s4) (fun r hr => hr.le (Nat.le_refl _) (fun Y2 t2 v hu => ?_))
      obtain ⟨rfl, rfl, z, u3, u4, u5⟩ := hu
      rw [eVal, if_neg (by omega), if_neg (by omega), eNv, k1, Nat.add_sub_cancel_left]
      refine ⟨z, _, u3, u4, zF_of u5, ⟨htt, Or.inl ⟨_, rfl, fit_k (by omega), rfl, fun j hj => ?_⟩⟩, y476 _⟩
      rw [rwu_at, rwu_at]
      rfl
    · cases hq
      rw [if_neg (fun w => by omega)] at hf
      cases hf
      refine rt_last (i := 0) s3 (Or.inr rfl) rfl ⟨by decide, by decide⟩ (by decide) (fun h4 s4 => ?_)
      refine mj_T.pl rfl rfl rfl rfl ?_
      exact rt_finE ht k2 hle s4
  · cases hq'
    refine mj_T.if0 (a := 0) rfl ⟨by decide, by decide⟩ (fun _ => ?_) (fun hc2 => by simp [jc] at hc2)
    have ndig : ¬ (q < tm ∧ 48 ≤ T q ∧ T q ≤ 57) := fun w => hdg (by rw [show rvt T tm q = T q from if_pos w.1]; exact w.2)
    iterate 2 refine mj_T.pl rfl rfl rfl rfl ?_
    refine mj_T.call rfl rfl (Nat.le_of_ble_eq_true rfl) (Nat.le_of_ble_eq_true rfl) (s1.rv (by decide) rfl _) rfl (mj_Ok.up (by omega) (rt_takes (D := 0) (c := 120) ⟨by decide, by decide⟩ hB ht hT hle s1)) (fun v h2 hq => ?_) (fun i h2 hq => by rcases hq with ⟨_, _, _, _, hq⟩ | ⟨_, _, _, hq⟩ <;> cases hq)
    rcases hq with ⟨b, _, ⟨b1, b2, b3⟩, s2, hq⟩ | ⟨_, b1, s2, hq⟩
    · -- the letter x
      cases hq
      unfold rtk at b1
      rw [hid] at b1
      by_cases c : q < tm ∧ T q = 120
      · rw [if_pos c] at b1
        cases b1
        rw [if_pos c] at hf
        cases hf
        refine mj_T.if0 (a := 1) rfl ⟨by decide, by decide⟩ (fun hc2 => by simp [jc] at hc2) (fun _ => ?_)
        refine mj_T.pl rfl rfl rfl rfl ?_
        refine rt_g s2 rfl rfl ?_
        refine mj_T.pl rfl rfl rfl rfl ?_
        refine jT.lc 1 rfl rfl ?_
        refine rt_last (i := 1) s2 (Or.inr rfl) rfl ⟨by decide, by decide⟩ (by decide) (fun h4 s4 => ?_)
        refine mj_T.pl rfl rfl rfl rfl ?_
        refine mj_T.to (rt_fin hB ht hT b2 (by omega) s4) (fun r hr => hr.le (Nat.le_refl _) (fun Y2 t2 v hu => ?_))
        obtain ⟨rfl, rfl, z, u3, u4, u5⟩ := hu
        rw [eVal, if_pos c]
        refine ⟨z, _, u3, u4, zF_of u5, ⟨htt, Or.inl ⟨_, rfl, fit_x, rfl, fun j hj => ?_⟩⟩, y476 _⟩
        rw [rwu_at, rwu_at]
        rfl
      · rw [if_neg c] at b1
        cases b1
    · cases hq
      rw [hid] at s2
      have nx : ¬ (q < tm ∧ T q = 120) := fun w => by
        unfold rtk at b1
        rw [hid, if_pos w] at b1
        cases b1
      rw [if_neg nx] at hf
      refine mj_T.if0 (a := 0) rfl ⟨by decide, by decide⟩ (fun _ => ?_) (fun hc2 => by simp [jc] at hc2)
      -- nothing fits: the error is here
      have bad : ∀ h2, rMt g n tx X0 (zkG (8 - d)) (rwu Y 476 (fun _ => 0)) t (q : Int) (-1) h2 → res = (false, q) → mj_T (E0 + 5) mj_m52 127 [some (.ref 455), some (.int (jn (8 - (d : Int))))] [] h2 (rQt T tm g n tx X0 (zkG (8 - d)) a res rV (UF d Y t (zv0 T tm (f + 1) 0 d a none 1))) := fun h2 s2 er => by
        subst er
        iterate 2 refine mj_T.pl rfl rfl rfl rfl ?_
        refine rt_g s2 rfl rfl ?_
        refine rt_p3 s2 rfl (fun h3 s3 => ?_)
        exact rt_finE ht hle hle s3
      have num : ¬ (q < tm ∧ T q = 40) → res = (false, q) := fun w => by
        rw [if_neg w] at hf
        obtain ⟨k, k1⟩ : ∃ k, rdgp T tm q = q + k := ⟨rdgp T tm q - q, by have w : q ≤ rdgp T tm q := rdg_ge (T := T) (tm - q) q; omega⟩
        have k0 : ¬ (1 ≤ k) := fun w => ndig ((rdgp_pos k1).mp w)
        have eN : rnm T tm 9223372036854775807 q = (false, q) := by
          unfold rnm
          rw [hid, k1, Nat.add_sub_cancel_left, if_neg (fun w => k0 w.1.1)]
        rw [eN] at hf
        cases hf
        rfl
      iterate 2 refine mj_T.pl rfl rfl rfl rfl ?_
      refine mj_T.icmp (a := 8 - (d : Int)) (b := 8) rfl ⟨by omega, by omega⟩ ⟨by decide, by decide⟩ (fun c => ?_) (fun c => ?_)
      · simp only [jc, decide_eq_true_eq] at c
        have d0 : d = 0 := by omega
        subst d0
        refine bad _ s2 ?_
        by_cases w : q < tm ∧ T q = 40
        · rw [if_pos w, if_pos rfl] at hf
          cases hf
          rfl
        · exact num w
      simp only [jc, decide_eq_false_iff_not] at c
      obtain ⟨d', rfl⟩ : ∃ d', d = d' + 1 := ⟨d - 1, by omega⟩
      iterate 2 refine mj_T.pl rfl rfl rfl rfl ?_
      refine mj_T.call rfl rfl (Nat.le_of_ble_eq_true rfl) (Nat.le_of_ble_eq_true rfl) (s2.rv (by decide) rfl _) rfl (mj_Ok.up (by omega) (rt_takes (D := 0) (c := 40) ⟨by decide, by decide⟩ hB ht hT hle s2)) (fun v h3 hq => ?_) (fun i h3 hq => by rcases hq with ⟨_, _, _, _, hq⟩ | ⟨_, _, _, hq⟩ <;> cases hq)
      rcases hq with ⟨b, _, ⟨b1, b2, b3⟩, s3, hq⟩ | ⟨_, b1, s3, hq⟩
      rotate_left
      · cases hq
        rw [hid] at s3
        have n40 : ¬ (q < tm ∧ T q = 40) := fun w => by
          unfold rtk at b1
          rw [hid, if_pos w] at b1
          cases b1
        refine mj_T.if0 (a := 0) rfl ⟨by decide, by decide⟩ (fun _ => ?_) (fun hc2 => by simp [jc] at hc2)
        exact bad _ s3 (num n40)
      -- a sum in parentheses
      cases hq
      unfold rtk at b1
      rw [hid] at b1
      by_cases w : q < tm ∧ T q = 40
      rotate_left
      · rw [if_neg w] at b1
        cases b1
      rw [if_pos w] at b1
      cases b1
      rw [if_pos w, if_neg (Nat.succ_ne_zero d')] at hf
      refine mj_T.if0 (a := 1) rfl ⟨by decide, by decide⟩ (fun hc2 => by simp [jc] at hc2) (fun _ => ?_)
      iterate 3 refine mj_T.pl rfl rfl rfl rfl ?_
      refine mj_T.iadd (a := 8 - ((d' + 1 : Nat) : Int)) (b := 1) rfl ?_
      rw [show 8 - ((d' + 1 : Nat) : Int) + 1 = 8 - (d' : Int) by omega]
      -- behind the sum: copy it, go on
      have t107 : ∀ (Y3 : Nat → Nat → Int) (t3 : Int) (b : Nat) (x : Int) (h4 : mj_H) (Z4 Z5 : Nat → Prop) (Y5 : Nat → Nat → Int), rMt g n tx X0 Z4 Y3 t3 (b : Int) x h4 → mj_Ok 1 164 [.ref (457 + (8 - d')), .ref 476] h4 (fun z => ∃ h5, rMt g n tx X0 Z5 Y5 t3 (b : Int) x h5 ∧ z = (.inl none, h5)) → (∀ h5, rMt g n tx X0 Z5 Y5 t3 (b : Int) x h5 → mj_T (E0 + 5) mj_m52 135 [some (.ref 455), some (.int (jn (8 - ((d' + 1 : Nat) : Int))))] [] h5 (rQt T tm g n tx X0 (zkG (8 - (d' + 1))) a res rV (UF (d' + 1) Y t (zv0 T tm (f + 1) 0 (d' + 1) a none 1)))) → mj_T (E0 + 5) mj_m52 107 [some (.ref 455), some (.int (jn (8 - ((d' + 1 : Nat) : Int))))] [] h4 (rQt T tm g n tx X0 (zkG (8 - (d' + 1))) a res rV (UF (d' + 1) Y t (zv0 T tm (f + 1) 0 (d' + 1) a none 1))) := fun Y3 t3 b x h4 Z4 Z5 Y5 s4 k164 k => by
        refine mj_T.pl rfl rfl rfl rfl ?_
        refine rt_g s4 rfl rfl ?_
        iterate 2 refine mj_T.pl rfl rfl rfl rfl ?_
        refine mj_T.iadd (a := 8 - ((d' + 1 : Nat) : Int)) (b := 1) rfl ?_
        rw [show 8 - ((d' + 1 : Nat) : Int) + 1 = ((8 - d' : Nat) : Int) by omega]
        refine mj_T.call rfl rfl (Nat.le_of_ble_eq_true rfl) (Nat.le_of_ble_eq_true rfl) rfl rfl (mj_Ok.up (by omega) (rt_48 (D := 0) (b := 456) (k := 8 - d') s4 (Or.inl rfl) (by omega))) (fun v h5 hq => ?_) (fun i h5 hq => by cases hq)
        cases hq
        refine mj_T.eq (st2 := [.ref (457 + (8 - d'))]) ?_ rfl rfl rfl rfl
        refine mj_T.pl rfl rfl rfl rfl ?_
        refine rt_g s4 rfl rfl ?_
        refine mj_T.call rfl rfl (Nat.le_of_ble_eq_true rfl) (Nat.le_of_ble_eq_true rfl) rfl rfl (mj_Ok.up (by omega) k164) (fun v h5 hq => ?_) (fun i h5 hq => by obtain ⟨_, _, hq⟩ := hq; cases hq)
        obtain ⟨_, s5, hq⟩ := hq
        cases hq
        refine mj_T.pl rfl rfl rfl rfl ?_
        exact k _ s5
      cases hsum : rpr0 T tm f 3 d' (q + 1) with
      | none =>
        rw [show d' + 1 - 1 = d' from rfl, hsum] at hf
        cases hf
      | some rs =>
        rw [show d' + 1 - 1 = d' from rfl, hsum] at hf
        refine mj_T.call rfl rfl (Nat.le_of_ble_eq_true rfl) (Nat.le_of_ble_eq_true rfl) (s3.rv (by decide) rfl _) rfl (ih d' rfl f (q + 1) h3 rs _ t htt b2 hsum (s3.mono (fun c hc => by unfold zkS at hc; unfold zkG zkF; omega))) (fun v h4 hq => ?_) (fun i h4 hq => by obtain ⟨_, _, _, _, _, hq, _⟩ := hq; cases hq)
        obtain ⟨v2, c2, h5, Y3, t3, hq, hv, c3, c4⟩ := hq
        cases hv
        cases hq
        obtain ⟨ok, x⟩ := rs
        rcases c4 with ⟨e1, e2, e3, s4, hU⟩ | ⟨e1, e2, s4⟩
        · have e1 : ok = true := e1
          have e2 : c2 = x := e2
          subst e1 e2
          simp only at hf
          refine mj_T.pl rfl rfl rfl rfl ?_
          refine rt_g s4 rfl rfl ?_
          refine mj_T.pl rfl rfl rfl rfl ?_
          refine mj_T.icmp (a := -1) (b := -1) rfl ⟨by decide, by decide⟩ ⟨by decide, by decide⟩ (fun c => absurd c (by decide)) (fun _ => ?_)
          iterate 2 refine mj_T.pl rfl rfl rfl rfl ?_
          refine mj_T.call rfl rfl (Nat.le_of_ble_eq_true rfl) (Nat.le_of_ble_eq_true rfl) (s4.rv (by decide) rfl _) rfl (mj_Ok.up (by omega) (rt_takes (D := 0) (c := 41) ⟨by decide, by decide⟩ hB ht hT c3 s4)) (fun v h6 hq => ?_) (fun i h6 hq => by rcases hq with ⟨_, _, _, _, hq⟩ | ⟨_, _, _, hq⟩ <;> cases hq)
          rcases hq with ⟨b6, _, ⟨g1, g2, g3⟩, s6, hq⟩ | ⟨_, g1, s6, hq⟩
          · cases hq
            rw [g1] at hf
            cases hf
            refine mj_T.if0 (a := 1) rfl ⟨by decide, by decide⟩ (fun _ => ?_) (fun hc2 => by simp [jc] at hc2)
            refine t107 Y3 t3 b6 (-1) h6 _ _ _ s6 (rt_164 (D := 0) (Z' := zkG (8 - (d' + 1))) s6 (show zkP (8 - d') (457 + (8 - d')) from Or.inl ⟨by omega, by omega⟩) isRw.f (fun c hc => by unfold zkG zkF at hc; unfold zkP; omega)) (fun h7 s7 => mj_T.to (rt_fin hB ht hT g2 (by omega) s7) (fun r hr => hr.le (Nat.le_refl _) (fun Y2 t2 v hu => ?_)))
            obtain ⟨rfl, rfl, z, u3, u4, u5⟩ := hu
            have hc9 : ¬ (q < tm ∧ T q = 120) := by omega
            rw [eVal, if_neg hc9, if_pos w, show d' + 1 - 1 = d' from rfl, hsum]
            show UF (d' + 1) Y t (match rtk T tm 41 c2 with | some e => zvx T tm (zv0 T tm f 3 d' (q + 1) none 1) e | none => none) _ _ _
            rw [g1]
            refine ⟨z, _, u3, u4, zF_of u5, ?_, fun c hc => ?_⟩
            · rw [rwu_at]
              exact hU.1
            · rw [rwu_ne _ _ (by omega), hU.2 c (by omega), rwu_ne _ _ (by omega)]
          · cases hq
            rw [g1] at hf
            cases hf
            have hl6 := rskp_le (T := T) c3
            refine mj_T.if0 (a := 0) rfl ⟨by decide, by decide⟩ (fun hc2 => by simp [jc] at hc2) (fun _ => ?_)
            iterate 2 refine mj_T.pl rfl rfl rfl rfl ?_
            refine rt_g s6 rfl rfl ?_
            refine rt_p3 s6 rfl (fun h7 s7 => ?_)
            exact t107 _ _ _ _ h7 _ _ _ s7 (rt_164l (D := 0) s7 (isRw.s (by omega)) isRw.f) (fun h8 s8 => rt_finE ht hl6 hl6 s8)
        · have e1 : ok = false := e1
          subst e1
          simp only at hf e2 s4
          cases hf
          refine mj_T.pl rfl rfl rfl rfl ?_
          refine rt_g s4 rfl rfl ?_
          refine mj_T.pl rfl rfl rfl rfl ?_
          refine mj_T.icmp (a := (x : Int)) (b := -1) rfl ⟨by omega, by omega⟩ ⟨by decide, by decide⟩ (fun _ => ?_) (fun c => ?_)
          · exact t107 _ _ c2 (x : Int) h4 _ _ _ s4 (rt_164l (D := 0) s4 (isRw.s (by omega)) isRw.f) (fun h7 s7 => rt_finE ht c3 e2 s7)
          · simp only [jc, Bool.not_eq_false', decide_eq_true_eq] at c
            omega
end JRE2t
/-! The class's reader over the memory: products and sums. -/
section JRF2t
variable {D tm n tx : Nat} {T : Nat → Int} {g h h' : mj_H} {a e t : Int} {X0 Y : Nat → Nat → Int} {Z : Nat → Prop}
/-- check (51): what is too great becomes 0 -/
theorem rt_check {r : Nat} {ok : Prop} {w : Nat → Int} {zz : Int} (kr : isRw r) (ht : t = 0 ∨ t = 1) (s : (ok ∧ zz = 1 ∧ rMt g n tx X0 Z (rwu Y r w) t a e h) ∨ (¬ ok ∧ zz = 0 ∧ rMt g n tx X0 (fun c => c ≠ r ∧ Z c) Y t a e h)) : mj_Ok (D + 2) 51 [.ref 455, .int (jn zz), .ref r] h (fun z => ∃ h2, z = (.inl none, h2) ∧ ((ok ∧ rMt g n tx X0 Z (rwu Y r w) t a e h2) ∨ (¬ ok ∧ rMt g n tx X0 Z (rwu Y r (fun _ => 0)) 1 a e h2))) := by
  refine mj_Ok.of (M := mj_m51) (loc := [some (.ref 455), some (.int (jn zz)), some (.ref r)]) rfl rfl rfl ?_
  refine mj_T.pl rfl rfl rfl rfl ?_
  rcases s with ⟨o, rfl, s⟩ | ⟨o, rfl, s⟩
  · refine mj_T.if0 (a := 1) rfl ⟨by decide, by decide⟩ (fun _ => ?_) (fun c => by simp [jc] at c)
    exact mj_T.ret rfl rfl rfl ⟨h, rfl, Or.inl ⟨o, s⟩⟩
  · refine mj_T.if0 (a := 0) rfl ⟨by decide, by decide⟩ (fun c => by simp [jc] at c) (fun _ => ?_)
    iterate 2 refine mj_T.pl rfl rfl rfl rfl ?_
    refine rt_p4 (b := 1) (Or.inr rfl) s rfl (fun h1 s1 => ?_)
    refine mj_T.pl rfl rfl rfl rfl ?_
    refine mj_T.call rfl rfl (Nat.le_of_ble_eq_true rfl) (Nat.le_of_ble_eq_true rfl) rfl rfl (rt_165 (D := D) (Z' := Z) s1 kr (fun c hc => by
      by_cases q : c = r
      · exact Or.inl q
      · exact Or.inr ⟨q, hc⟩)) (fun v h2 hq => ?_) (fun i h2 hq => by obtain ⟨_, _, hq⟩ := hq; cases hq)
    obtain ⟨_, s2, hq⟩ := hq
    cases hq
    exact mj_T.ret rfl rfl rfl ⟨h2, rfl, Or.inr ⟨o, s2⟩⟩
theorem rMt.rv19 {Z : Nat → Prop} {r2 : Nat} {st : List Value} (s : rMt g n tx X0 Z Y t a e h) (hr : 1 ≤ r2) (hd : st.drop (r2 - 1) = .ref 19 :: st.drop r2) : ∀ m, mj_recv (.invokevirtual m) r2 1 st h = true := by
  intro m
  obtain ⟨V, X, mm, _⟩ := s
  exact mV_of mm 11 cq_456.2.2.2.2.2.1 (by decide) rfl hr hd m
theorem rt_product_loop {d E a0 : Nat} (hB : bXt tx X0 tm T) (ht : tm ≤ 340) (hT : ∀ j : Nat, j < tm → 0 ≤ T j ∧ T j ≤ 255) (hd : d ≤ 8)
    (ih : ∀ (f p : Nat) (h : mj_H) (res : Bool × Nat) (Y : Nat → Nat → Int) (t : Int), (t = 0 ∨ t = 1) → p ≤ tm → rpr0 T tm f 0 d p = some res → rMt g n tx X0 (zkF (8 - d)) Y t (p : Int) (-1) h → mj_Ok (E + 6) 52 [.ref 455, .int (jn (8 - (d : Int)))] h (rQt T tm g n tx X0 (zkG (8 - d)) p res rV (UF d Y t (zv0 T tm f 0 d p none 1)))) (Y0 : Nat → Nat → Int) (t0 : Int) : ∀ (f p i : Nat) (h : mj_H) (res : Bool × Nat) (l4 : Option Value) (Y : Nat → Nat → Int) (t : Int) (P : Option pz_P), U0 P t0 t (Y (467 + (8 - d))) → (∀ c, c ≤ 457 + (8 - d) ∨ (467 ≤ c ∧ c < 467 + (8 - d)) → Y c = Y0 c) → p ≤ tm → i ≤ p → a0 ≤ p → rpr0 T tm f 1 d p = some res → rMt g n tx X0 (zkF (8 - d)) Y t (p : Int) (-1) h → mj_T (E + 6) mj_m50 19 [some (.ref 455), some (.int (jn (8 - (d : Int)))), some (.ref (467 + (8 - d))), some (.int (jn (i : Int))), l4] [] h (rQt T tm g n tx X0 (zkF (8 - d)) a0 res rV0 (UP d Y0 t0 (zv0 T tm f 1 d p P 1))) := by
  intro f
  induction f with
  | zero => intro p i h res l4 Y t P _ _ _ _ _ hf; cases hf
  | succ f ihf =>
    intro p i h res l4 Y t P hu hfr hp hi ha hf s
    have b := s.jBt hB
    have kr : isRw (467 + (8 - d)) := isRw.p (by omega)
    have eVal : zv0 T tm (f + 1) 1 d p P 1 = match rpr0 T tm f 0 d p with | some (true, c) => (match rtk T tm 42 c with | none => zvm P (zv0 T tm f 0 d p none 1) | some e => zv0 T tm f 1 d e (zvm P (zv0 T tm f 0 d p none 1)) 1) | _ => none := rfl
    unfold rpr0 at hf
    iterate 2 refine mj_T.pl rfl rfl rfl rfl ?_
    refine rt_g s rfl rfl ?_
    refine mj_T.gfl rfl b.1 rfl ?_
    refine mj_T.icmp (a := (i : Int)) (b := (tm : Int)) rfl ⟨by omega, by omega⟩ ⟨by omega, by omega⟩ (fun c => ?_) (fun _ => ?_)
    · have c := of_decide_eq_true c
      omega
    iterate 2 refine mj_T.pl rfl rfl rfl rfl ?_
    cases hfa : rpr0 T tm f 0 d p with
    | none => rw [hfa] at hf; cases hf
    | some rs =>
      rw [hfa] at hf eVal
      refine mj_T.call rfl rfl (Nat.le_of_ble_eq_true rfl) (Nat.le_of_ble_eq_true rfl) (s.rv (by decide) rfl _) rfl (ih f p h rs Y t hu.t hp hfa s) (fun v h4 hq => ?_) (fun i h4 hq => by obtain ⟨_, _, _, _, _, hq, _⟩ := hq; cases hq)
      obtain ⟨v2, c2, h5, Y4, t4, hq, ⟨z, hz, hv⟩, c3, c4⟩ := hq
      subst hv
      cases hq
      refine mj_T.pl (loc' := [some (.ref 455), some (.int (jn (8 - (d : Int)))), some (.ref (467 + (8 - d))), some (.int (jn (i : Int))), some (.int (jn z))]) rfl rfl rfl rfl ?_
      refine mj_T.pl rfl rfl rfl rfl ?_
      obtain ⟨ok, x⟩ := rs
      rcases c4 with ⟨e1, e2, e3, s4, hU⟩ | ⟨e1, e2, s4⟩
      rotate_left
      · have e1 : ok = false := e1
        subst e1
        simp only at hf e2 s4
        cases hf
        refine rt_g s4 rfl rfl ?_
        refine mj_T.pl rfl rfl rfl rfl ?_
        refine mj_T.icmp (a := (x : Int)) (b := -1) rfl ⟨by omega, by omega⟩ ⟨by decide, by decide⟩ (fun c => ?_) (fun _ => ?_)
        · simp only [jc, decide_eq_true_eq] at c
          omega
        · exact mj_T.ret rfl rfl rfl ⟨_, c2, _, _, _, rfl, rfl, c3, Or.inr ⟨rfl, e2, s4⟩⟩
      have e1 : ok = true := e1
      have e2 : c2 = x := e2
      subst e1 e2
      obtain ⟨z', w, hz', hzb, hzF, hUw, hUf⟩ := hU
      cases (show z' = z by
        injection hz' with q
        injection q with q
        exact jn_inj ⟨by omega, by omega⟩ ⟨by omega, by omega⟩ q.symm)
      simp only at hf eVal
      refine rt_g s4 rfl rfl ?_
      refine mj_T.pl rfl rfl rfl rfl ?_
      refine mj_T.icmp (a := -1) (b := -1) rfl ⟨by decide, by decide⟩ ⟨by decide, by decide⟩ (fun _ => ?_) (fun c => absurd c (by decide))
      -- the product so far, times the factor
      have t77 : ∀ (Y6 : Nat → Nat → Int) (t6 : Int) (h6 : mj_H), U0 (zv0 T tm f 0 d p none 1) t t6 (Y6 476) → Y6 (467 + (8 - d)) = Y (467 + (8 - d)) → (∀ c, c ≤ 457 + (8 - d) ∨ (467 ≤ c ∧ c < 467 + (8 - d)) → Y6 c = Y0 c) → rMt g n tx X0 (zkG (8 - d)) Y6 t6 (c2 : Int) (-1) h6 → mj_T (E + 6) mj_m50 77 [some (.ref 455), some (.int (jn (8 - (d : Int)))), some (.ref (467 + (8 - d))), some (.int (jn (i : Int))), some (.int (jn z))] [] h6 (rQt T tm g n tx X0 (zkF (8 - d)) a0 res rV0 (UP d Y0 t0 (zv0 T tm (f + 1) 1 d p P 1))) := fun Y6 t6 h6 u6 f6 r6 s6 => by
        iterate 2 refine mj_T.pl rfl rfl rfl rfl ?_
        refine rt_g s6 rfl rfl ?_
        iterate 2 refine mj_T.pl rfl rfl rfl rfl ?_
        refine rt_g s6 rfl rfl ?_
        refine mj_T.pl rfl rfl rfl rfl ?_
        refine mj_T.call rfl rfl (Nat.le_of_ble_eq_true rfl) (Nat.le_of_ble_eq_true rfl) (s6.rv19 (by decide) rfl _) rfl (mj_Ok.up (by omega) (rt_11 (D := 0) s6 (show zkG (8 - d) (467 + (8 - d)) from Or.inl (Or.inr ⟨by omega, by omega⟩)) (show zkG (8 - d) 476 from Or.inr rfl))) (fun v h7 hq => ?_) (fun i h7 hq => by obtain ⟨_, ⟨_, _, hq⟩ | ⟨_, _, hq⟩⟩ := hq <;> cases hq)
        obtain ⟨zz, hzz, s7⟩ : ∃ zz : Int, v = some (.int (jn zz)) ∧ ((fit13 (pz_mul (rw13 (Y6 (467 + (8 - d)))) (rw13 (Y6 476))) ∧ zz = 1 ∧ rMt g n tx X0 (zkG (8 - d)) (rwu Y6 (467 + (8 - d)) (pz_mul (rw13 (Y6 (467 + (8 - d)))) (rw13 (Y6 476)))) t6 (c2 : Int) (-1) h7) ∨ (¬ fit13 (pz_mul (rw13 (Y6 (467 + (8 - d)))) (rw13 (Y6 476))) ∧ zz = 0 ∧ rMt g n tx X0 (fun c => c ≠ 467 + (8 - d) ∧ zkG (8 - d) c) Y6 t6 (c2 : Int) (-1) h7)) := by
          obtain ⟨h2, ⟨o, s7, hq⟩ | ⟨o, s7, hq⟩⟩ := hq <;> cases hq
          · exact ⟨1, rfl, Or.inl ⟨o, rfl, s7⟩⟩
          · exact ⟨0, rfl, Or.inr ⟨o, rfl, s7⟩⟩
        subst hzz
        refine mj_T.eq (st2 := [.int (jn zz), .ref 455]) ?_ rfl rfl rfl rfl
        refine mj_T.pl rfl rfl rfl rfl ?_
        refine mj_T.call rfl rfl (Nat.le_of_ble_eq_true rfl) (Nat.le_of_ble_eq_true rfl) (by rcases s7 with ⟨_, _, q⟩ | ⟨_, _, q⟩ <;> exact q.rv (by decide) rfl _) rfl (mj_Ok.up (by omega) (rt_check (D := 0) kr u6.t s7)) (fun v h8 hq => ?_) (fun i h8 hq => by obtain ⟨_, hq, _⟩ := hq; cases hq)
        obtain ⟨_, hq, s8⟩ := hq
        cases hq
        obtain ⟨Y8, t8, s8, u8, f8⟩ : ∃ (Y8 : Nat → Nat → Int) (t8 : Int), rMt g n tx X0 (zkG (8 - d)) Y8 t8 (c2 : Int) (-1) h8 ∧ U0 (zvm P (zv0 T tm f 0 d p none 1)) t0 t8 (Y8 (467 + (8 - d))) ∧ ∀ c, c ≤ 457 + (8 - d) ∨ (467 ≤ c ∧ c < 467 + (8 - d)) → Y8 c = Y0 c := by
          have hu2 : U0 P t0 t (Y6 (467 + (8 - d))) := by rw [f6]; exact hu
          have hm := hu2.mul u6
          have ff : ∀ w : Nat → Int, ∀ c, c ≤ 457 + (8 - d) ∨ (467 ≤ c ∧ c < 467 + (8 - d)) → rwu Y6 (467 + (8 - d)) w c = Y0 c := fun w c hc => by rw [rwu_ne _ _ (by omega), r6 c hc]
          rcases s8 with ⟨o, s8⟩ | ⟨o, s8⟩
          · rcases hm with ⟨A, B, m1, m2, m3, m4, m5⟩ | ⟨m1, m2⟩
            · rw [m4, m5] at o s8
              exact ⟨_, _, s8, ⟨hu.1, Or.inl ⟨pz_mul A B, by rw [m1, m2]; exact zvf_y o, o, m3, fun j _ => by rw [rwu_at]⟩⟩, ff _⟩
            · exact ⟨_, _, s8, ⟨hu.1, Or.inr ⟨m1, m2⟩⟩, ff _⟩
          · refine ⟨_, _, s8, ⟨hu.1, Or.inr ⟨?_, rfl⟩⟩, ff _⟩
            rcases hm with ⟨A, B, m1, m2, m3, m4, m5⟩ | ⟨m1, m2⟩
            · rw [m4, m5] at o
              rw [m1, m2]
              exact zvf_n o
            · exact m1
        iterate 2 refine mj_T.pl rfl rfl rfl rfl ?_
        refine mj_T.call rfl rfl (Nat.le_of_ble_eq_true rfl) (Nat.le_of_ble_eq_true rfl) (s8.rv (by decide) rfl _) rfl (mj_Ok.up (by omega) (rt_takes (D := 0) (c := 42) ⟨by decide, by decide⟩ hB ht hT c3 s8)) (fun v h9 hq => ?_) (fun i h9 hq => by rcases hq with ⟨_, _, _, _, hq⟩ | ⟨_, _, _, hq⟩ <;> cases hq)
        rcases hq with ⟨b9, _, ⟨g1, g2, g3⟩, s9, hq⟩ | ⟨_, g1, s9, hq⟩
        · cases hq
          rw [g1] at hf eVal
          rw [eVal]
          refine mj_T.if0 (a := 1) rfl ⟨by decide, by decide⟩ (fun _ => ?_) (fun hc2 => by simp [jc] at hc2)
          refine mj_T.iinc (a := (i : Int)) rfl rfl ?_
          refine mj_T.eq (loc2 := [some (.ref 455), some (.int (jn (8 - (d : Int)))), some (.ref (467 + (8 - d))), some (.int (jn ((i + 1 : Nat) : Int))), some (.int (jn z))]) ?_ rfl (by rw [show ((i + 1 : Nat) : Int) = (i : Int) + 1 by omega]; rfl) rfl rfl
          refine mj_T.pl rfl rfl rfl rfl ?_
          exact ihf b9 (i + 1) h9 res _ Y8 t8 _ u8 f8 g2 (by omega) (by omega) hf (s9.mono (fun c hc => Or.inl hc))
        · cases hq
          rw [g1] at hf eVal
          cases hf
          have hl9 := rskp_le (T := T) c3
          have hg9 := rskp_ge (T := T) (tm := tm) c2
          refine mj_T.if0 (a := 0) rfl ⟨by decide, by decide⟩ (fun hc2 => by simp [jc] at hc2) (fun _ => ?_)
          exact mj_T.ret rfl rfl rfl ⟨_, rskp T tm c2, h9, Y8, t8, rfl, rfl, hl9, Or.inl ⟨rfl, rfl, by omega, s9.mono (fun c hc => Or.inl hc), by rw [eVal]; exact ⟨u8, f8⟩⟩⟩
      iterate 2 refine mj_T.pl rfl rfl rfl rfl ?_
      refine mj_T.icmp (a := z) (b := -1) rfl ⟨by omega, by omega⟩ ⟨by decide, by decide⟩ (fun c => ?_) (fun c => ?_)
      · simp only [jc, Bool.not_eq_true', Bool.not_eq_false', decide_eq_true_eq, decide_eq_false_iff_not] at c
        refine t77 _ _ _ ?_ (hUf _ (by omega)) (fun x hx => (hUf x (by omega)).trans (hfr x hx)) s4
        rcases hzF with ⟨_, hv⟩ | ⟨hz0, _⟩
        · rw [hv]
          exact hUw
        · omega
      simp only [jc, Bool.not_eq_true', Bool.not_eq_false', decide_eq_true_eq, decide_eq_false_iff_not] at c
      rcases hzF with ⟨hz1, _⟩ | ⟨hz0, hv⟩
      · omega
      obtain ⟨zn, rfl⟩ := Int.eq_ofNat_of_zero_le hz0
      rw [Int.toNat_natCast] at hv
      iterate 2 refine mj_T.pl rfl rfl rfl rfl ?_
      refine rt_g s4 rfl rfl ?_
      refine mj_T.pl rfl rfl rfl rfl ?_
      refine rt_g s4 rfl rfl ?_
      iterate 2 refine mj_T.pl rfl rfl rfl rfl ?_
      refine rt_g s4 rfl rfl ?_
      refine mj_T.call rfl rfl (Nat.le_of_ble_eq_true rfl) (Nat.le_of_ble_eq_true rfl) (s4.rv19 (by decide) rfl _) rfl (mj_Ok.up (by omega) (rt_12 (D := 0) s4 (show zkG (8 - d) 476 from Or.inr rfl) (z := zn) (by omega))) (fun v h7 hq => ?_) (fun i h7 hq => by obtain ⟨_, ⟨_, _, hq⟩ | ⟨_, _, hq⟩⟩ := hq <;> cases hq)
      obtain ⟨zz, hzz, s7⟩ : ∃ zz : Int, v = some (.int (jn zz)) ∧ ((fit13 (pw (rw13 (Y4 476)) zn) ∧ zz = 1 ∧ rMt g n tx X0 (zkG (8 - d)) (rwu Y4 476 (pw (rw13 (Y4 476)) zn)) t4 (c2 : Int) (-1) h7) ∨ (¬ fit13 (pw (rw13 (Y4 476)) zn) ∧ zz = 0 ∧ rMt g n tx X0 (fun c => c ≠ 476 ∧ zkG (8 - d) c) Y4 t4 (c2 : Int) (-1) h7)) := by
        obtain ⟨h2, ⟨o, s7, hq⟩ | ⟨o, s7, hq⟩⟩ := hq <;> cases hq
        · exact ⟨1, rfl, Or.inl ⟨o, rfl, s7⟩⟩
        · exact ⟨0, rfl, Or.inr ⟨o, rfl, s7⟩⟩
      subst hzz
      refine mj_T.eq (st2 := [.int (jn zz), .ref 455]) ?_ rfl rfl rfl rfl
      refine mj_T.pl rfl rfl rfl rfl ?_
      have t455 : h7[455]? = some (.inr (4, RFt tx (c2 : Int) (-1) t4)) := by rcases s7 with ⟨_, _, q⟩ | ⟨_, _, q⟩ <;> exact q.rd
      refine mj_T.gfl rfl t455 rfl ?_
      refine mj_T.call rfl rfl (Nat.le_of_ble_eq_true rfl) (Nat.le_of_ble_eq_true rfl) (by rcases s7 with ⟨_, _, q⟩ | ⟨_, _, q⟩ <;> exact q.rv (by decide) rfl _) rfl (mj_Ok.up (by omega) (rt_check (D := 0) isRw.f hUw.t s7)) (fun v h8 hq => ?_) (fun i h8 hq => by obtain ⟨_, hq, _⟩ := hq; cases hq)
      obtain ⟨_, hq, s8⟩ := hq
      cases hq
      have fr : ∀ w : Nat → Int, ∀ c, c ≤ 457 + (8 - d) ∨ (467 ≤ c ∧ c < 467 + (8 - d)) → rwu Y4 476 w c = Y0 c := fun w x hx => by rw [rwu_ne _ _ (by omega), hUf x (by omega), hfr x hx]
      have fr2 : ∀ w : Nat → Int, rwu Y4 476 w (467 + (8 - d)) = Y (467 + (8 - d)) := fun w => by rw [rwu_ne _ _ (by omega), hUf _ (by omega)]
      obtain ⟨hUt, ⟨A, a1, a2, a3, a4⟩ | ⟨a1, a2⟩⟩ := hUw
      · rw [rw13_fit a2 a4] at s8
        rcases s8 with ⟨o, s8⟩ | ⟨o, s8⟩
        · exact t77 _ _ _ ⟨hUt, Or.inl ⟨_, by rw [hv, a1]; exact zvf_y o, o, a3, fun j _ => by rw [rwu_at]⟩⟩ (fr2 _) (fr _) s8
        · exact t77 _ _ _ ⟨hUt, Or.inr ⟨by rw [hv, a1]; exact zvf_n o, rfl⟩⟩ (fr2 _) (fr _) s8
      · rcases s8 with ⟨o, s8⟩ | ⟨o, s8⟩
        · exact t77 _ _ _ ⟨hUt, Or.inr ⟨by rw [hv, a1]; rfl, a2⟩⟩ (fr2 _) (fr _) s8
        · exact t77 _ _ _ ⟨hUt, Or.inr ⟨by rw [hv, a1]; rfl, rfl⟩⟩ (fr2 _) (fr _) s8
theorem rt_product {d E : Nat} (hB : bXt tx X0 tm T) (ht : tm ≤ 340) (hT : ∀ j : Nat, j < tm → 0 ≤ T j ∧ T j ≤ 255) (hd : d ≤ 8)
    (ih : ∀ (f p : Nat) (h : mj_H) (res : Bool × Nat) (Y : Nat → Nat → Int) (t : Int), (t = 0 ∨ t = 1) → p ≤ tm → rpr0 T tm f 0 d p = some res → rMt g n tx X0 (zkF (8 - d)) Y t (p : Int) (-1) h → mj_Ok (E + 6) 52 [.ref 455, .int (jn (8 - (d : Int)))] h (rQt T tm g n tx X0 (zkG (8 - d)) p res rV (UF d Y t (zv0 T tm f 0 d p none 1)))) (f p : Nat) (h : mj_H) (res : Bool × Nat) (Y : Nat → Nat → Int) (t : Int) (htt : t = 0 ∨ t = 1) (hp : p ≤ tm) (hf : rpr0 T tm f 1 d p = some res) (s : rMt g n tx X0 (zkP (8 - d)) Y t (p : Int) (-1) h) : mj_Ok (E + 7) 50 [.ref 455, .int (jn (8 - (d : Int)))] h (rQt T tm g n tx X0 (zkF (8 - d)) p res rV0 (UP d Y t (zv0 T tm f 1 d p (some pz_one) 1))) := by
  refine mj_Ok.of (M := mj_m50) (loc := [some (.ref 455), some (.int (jn (8 - (d : Int)))), none, none, none]) rfl rfl rfl ?_
  refine mj_T.pl rfl rfl rfl rfl ?_
  refine rt_g s rfl rfl ?_
  refine mj_T.pl rfl rfl rfl rfl ?_
  rw [show 8 - (d : Int) = ((8 - d : Nat) : Int) by omega]
  refine mj_T.call rfl rfl (Nat.le_of_ble_eq_true rfl) (Nat.le_of_ble_eq_true rfl) rfl rfl (mj_Ok.up (by omega) (rt_48 (D := 0) (b := 466) (k := 8 - d) s (Or.inr rfl) (by omega))) (fun v h1 hq => ?_) (fun i h1 hq => by cases hq)
  cases hq
  rw [← show 8 - (d : Int) = ((8 - d : Nat) : Int) by omega]
  have kr : isRw (467 + (8 - d)) := isRw.p (by omega)
  refine mj_T.eq (st2 := [.ref (467 + (8 - d))]) ?_ rfl rfl rfl rfl
  refine mj_T.pl (loc' := [some (.ref 455), some (.int (jn (8 - (d : Int)))), some (.ref (467 + (8 - d))), none, none]) rfl rfl rfl rfl ?_
  refine mj_T.pl rfl rfl rfl rfl ?_
  refine mj_T.call rfl rfl (Nat.le_of_ble_eq_true rfl) (Nat.le_of_ble_eq_true rfl) rfl rfl (mj_Ok.up (by omega) (rt_165 (D := 0) (Z' := zkF (8 - d)) s kr (fun c hc => by unfold zkF at hc; unfold zkP; omega))) (fun v h1 hq => ?_) (fun i h1 hq => by obtain ⟨_, _, hq⟩ := hq; cases hq)
  obtain ⟨_, s1, hq⟩ := hq
  cases hq
  iterate 2 refine mj_T.pl rfl rfl rfl rfl ?_
  refine jT.lc 1 rfl rfl ?_
  refine rt_last (i := 0) s1 (show zkF (8 - d) (467 + (8 - d)) from Or.inr ⟨by omega, by omega⟩) rfl ⟨by decide, by decide⟩ (by decide) (fun h2 s2 => ?_)
  iterate 2 refine mj_T.pl rfl rfl rfl rfl ?_
  refine rt_product_loop hB ht hT hd ih Y t f p 0 h2 res _ _ t (some pz_one) ⟨htt, Or.inl ⟨_, rfl, fit_one, rfl, fun j hj => ?_⟩⟩ (fun c hc => ?_) hp (Nat.zero_le _) (Nat.le_refl _) hf s2
  · rw [rwu_at, rwu_at]
    rfl
  · rw [rwu_ne _ _ (by omega), rwu_ne _ _ (by omega)]
end JRF2t
section JRG2t
variable {D tm n tx : Nat} {T : Nat → Int} {g h h' : mj_H} {a e t : Int} {X0 Y : Nat → Nat → Int}
/-- a sum: and blanks are passed behind it -/
def rQ2t (T : Nat → Int) (tm : Nat) (g : mj_H) (n tx : Nat) (X0 : Nat → Nat → Int) (Z : Nat → Prop) (a : Nat) (res : Bool × Nat) (U : (Nat → Nat → Int) → Int → Option Value → Prop) (r : mj_R) : Prop := rQt T tm g n tx X0 Z a res rV0 U r ∧ (res.1 = true → rskp T tm res.2 = res.2)
theorem rt_sum_loop {d E a0 : Nat} (hB : bXt tx X0 tm T) (ht : tm ≤ 340) (hT : ∀ j : Nat, j < tm → 0 ≤ T j ∧ T j ≤ 255) (hd : d ≤ 8)
    (ih : ∀ (f p : Nat) (h : mj_H) (res : Bool × Nat) (Y : Nat → Nat → Int) (t : Int), (t = 0 ∨ t = 1) → p ≤ tm → rpr0 T tm f 1 d p = some res → rMt g n tx X0 (zkP (8 - d)) Y t (p : Int) (-1) h → mj_Ok (E + 7) 50 [.ref 455, .int (jn (8 - (d : Int)))] h (rQt T tm g n tx X0 (zkF (8 - d)) p res rV0 (UP d Y t (zv0 T tm f 1 d p (some pz_one) 1)))) (Y0 : Nat → Nat → Int) (t0 : Int) : ∀ (f p i : Nat) (z : Int) (h : mj_H) (res : Bool × Nat) (l5 : Option Value) (Y : Nat → Nat → Int) (t : Int) (P : Option pz_P), U0 P t0 t (Y (457 + (8 - d))) → (∀ c, c < 457 + (8 - d) ∨ (467 ≤ c ∧ c < 467 + (8 - d)) → Y c = Y0 c) → p ≤ tm → i ≤ p → a0 ≤ p → (z = 1 ∨ z = -1) → rpr0 T tm f 2 d p = some res → rMt g n tx X0 (zkP (8 - d)) Y t (p : Int) (-1) h → mj_T (E + 7) mj_m49 31 [some (.ref 455), some (.int (jn (8 - (d : Int)))), some (.ref (457 + (8 - d))), some (.int (jn z)), some (.int (jn (i : Int))), l5] [] h (rQ2t T tm g n tx X0 (zkP (8 - d)) a0 res (US d Y0 t0 (zv0 T tm f 2 d p P z))) := by
  intro f
  induction f with
  | zero => intro p i z h res l5 Y t P _ _ _ _ _ _ hf; cases hf
  | succ f ihf =>
    intro p i z h res l5 Y t P hu hfr hp hi ha hz hf s
    have b := s.jBt hB
    have kr : isRw (457 + (8 - d)) := isRw.s (by omega)
    have eVal : zv0 T tm (f + 1) 2 d p P z = match rpr0 T tm f 1 d p with | some (true, c) => (match rtk T tm 43 c with | some e => zv0 T tm f 2 d e (zva P z (zv0 T tm f 1 d p (some pz_one) 1)) 1 | none => match rtk T tm 45 (rskp T tm c) with | some e => zv0 T tm f 2 d e (zva P z (zv0 T tm f 1 d p (some pz_one) 1)) (-1) | none => zva P z (zv0 T tm f 1 d p (some pz_one) 1)) | _ => none := rfl
    unfold rpr0 at hf
    iterate 2 refine mj_T.pl rfl rfl rfl rfl ?_
    refine rt_g s rfl rfl ?_
    refine mj_T.gfl rfl b.1 rfl ?_
    refine mj_T.icmp (a := (i : Int)) (b := (tm : Int)) rfl ⟨by omega, by omega⟩ ⟨by omega, by omega⟩ (fun c => ?_) (fun _ => ?_)
    · have c := of_decide_eq_true c
      omega
    iterate 2 refine mj_T.pl rfl rfl rfl rfl ?_
    cases hfa : rpr0 T tm f 1 d p with
    | none => rw [hfa] at hf; cases hf
    | some rs =>
      rw [hfa] at hf eVal
      refine mj_T.call rfl rfl (Nat.le_of_ble_eq_true rfl) (Nat.le_of_ble_eq_true rfl) (s.rv (by decide) rfl _) rfl (ih f p h rs Y t hu.t hp hfa s) (fun v h4 hq => ?_) (fun i h4 hq => by obtain ⟨_, _, _, _, _, hq, _⟩ := hq; cases hq)
      obtain ⟨v2, c2, h5, Y4, t4, hq, hv, c3, c4⟩ := hq
      cases hv
      cases hq
      refine mj_T.pl rfl rfl rfl rfl ?_
      obtain ⟨ok, x⟩ := rs
      rcases c4 with ⟨e1, e2, e3, s4, hUw, hUf⟩ | ⟨e1, e2, s4⟩
      rotate_left
      · have e1 : ok = false := e1
        subst e1
        simp only at hf e2 s4
        cases hf
        refine rt_g s4 rfl rfl ?_
        refine mj_T.pl rfl rfl rfl rfl ?_
        refine mj_T.icmp (a := (x : Int)) (b := -1) rfl ⟨by omega, by omega⟩ ⟨by decide, by decide⟩ (fun c => ?_) (fun _ => ?_)
        · simp only [jc, decide_eq_true_eq] at c
          omega
        · exact mj_T.ret rfl rfl rfl ⟨⟨_, c2, _, _, _, rfl, rfl, c3, Or.inr ⟨rfl, e2, s4⟩⟩, fun q => by cases q⟩
      have e1 : ok = true := e1
      have e2 : c2 = x := e2
      subst e1 e2
      simp only at hf eVal
      refine rt_g s4 rfl rfl ?_
      refine mj_T.pl rfl rfl rfl rfl ?_
      refine mj_T.icmp (a := -1) (b := -1) rfl ⟨by decide, by decide⟩ ⟨by decide, by decide⟩ (fun _ => ?_) (fun c => absurd c (by decide))
      iterate 3 refine mj_T.pl rfl rfl rfl rfl ?_
      refine rt_g s4 rfl rfl ?_
      refine mj_T.pl rfl rfl rfl rfl ?_
      have e8 : (8 - (d : Int)) = ((8 - d : Nat) : Int) := by omega
      refine mj_T.call rfl rfl (Nat.le_of_ble_eq_true rfl) (Nat.le_of_ble_eq_true rfl) rfl rfl (by rw [e8]; exact mj_Ok.up (by omega) (rt_48 (D := 0) (b := 466) (k := 8 - d) s4 (Or.inr rfl) (by omega))) (fun v h6 hq => ?_) (fun i h6 hq => by cases hq)
      cases hq
      have k2 : isRw (467 + (8 - d)) := isRw.p (by omega)
      refine mj_T.eq (st2 := [.ref (467 + (8 - d)), .ref (457 + (8 - d)), .ref 455]) ?_ rfl rfl rfl rfl
      iterate 2 refine mj_T.pl rfl rfl rfl rfl ?_
      refine mj_T.call rfl rfl (Nat.le_of_ble_eq_true rfl) (Nat.le_of_ble_eq_true rfl) rfl rfl (mj_Ok.up (by omega) (rt_167 (D := 0) s4 (show zkF (8 - d) (457 + (8 - d)) from Or.inl ⟨by omega, by omega⟩) (show zkF (8 - d) (467 + (8 - d)) from Or.inr ⟨by omega, by omega⟩) hz)) (fun v h6 hq => ?_) (fun i h6 hq => by obtain ⟨_, ⟨_, _, hq⟩ | ⟨_, _, hq⟩⟩ := hq <;> cases hq)
      obtain ⟨zz, hzz, s6⟩ : ∃ zz : Int, v = some (.int (jn zz)) ∧ ((sml (fun j => Y4 (457 + (8 - d)) j + z * Y4 (467 + (8 - d)) j) ∧ zz = 1 ∧ rMt g n tx X0 (zkF (8 - d)) (rwu Y4 (457 + (8 - d)) (fun j => Y4 (457 + (8 - d)) j + z * Y4 (467 + (8 - d)) j)) t4 (c2 : Int) (-1) h6) ∨ (¬ sml (fun j => Y4 (457 + (8 - d)) j + z * Y4 (467 + (8 - d)) j) ∧ zz = 0 ∧ rMt g n tx X0 (fun c => c ≠ 457 + (8 - d) ∧ zkF (8 - d) c) Y4 t4 (c2 : Int) (-1) h6)) := by
        obtain ⟨h2, ⟨o, s7, hq⟩ | ⟨o, s7, hq⟩⟩ := hq <;> cases hq
        · exact ⟨1, rfl, Or.inl ⟨o, rfl, s7⟩⟩
        · exact ⟨0, rfl, Or.inr ⟨o, rfl, s7⟩⟩
      subst hzz
      refine mj_T.eq (st2 := [.int (jn zz), .ref 455]) ?_ rfl rfl rfl rfl
      refine mj_T.pl rfl rfl rfl rfl ?_
      refine mj_T.call rfl rfl (Nat.le_of_ble_eq_true rfl) (Nat.le_of_ble_eq_true rfl) (by rcases s6 with ⟨_, _, q⟩ | ⟨_, _, q⟩ <;> exact q.rv (by decide) rfl _) rfl (mj_Ok.up (by omega) (rt_check (D := 0) kr hUw.t s6)) (fun v h8 hq => ?_) (fun i h8 hq => by obtain ⟨_, hq, _⟩ := hq; cases hq)
      obtain ⟨_, hq, s8⟩ := hq
      cases hq
      have sFP : ∀ (Y9 : Nat → Nat → Int) (t9 : Int), rMt g n tx X0 (zkF (8 - d)) Y9 t9 (c2 : Int) (-1) h8 → rMt g n tx X0 (zkP (8 - d)) Y9 t9 (c2 : Int) (-1) h8 := fun Y9 t9 q => q.mono (fun c hc => by unfold zkP at hc; unfold zkF; omega)
      obtain ⟨Y8, t8, s8, u8, f8⟩ : ∃ (Y8 : Nat → Nat → Int) (t8 : Int), rMt g n tx X0 (zkP (8 - d)) Y8 t8 (c2 : Int) (-1) h8 ∧ U0 (zva P z (zv0 T tm f 1 d p (some pz_one) 1)) t0 t8 (Y8 (457 + (8 - d))) ∧ ∀ c, c < 457 + (8 - d) ∨ (467 ≤ c ∧ c < 467 + (8 - d)) → Y8 c = Y0 c := by
        have e57 : Y4 (457 + (8 - d)) = Y (457 + (8 - d)) := hUf _ (by omega)
        have ff : ∀ w : Nat → Int, ∀ c, c < 457 + (8 - d) ∨ (467 ≤ c ∧ c < 467 + (8 - d)) → rwu Y4 (457 + (8 - d)) w c = Y0 c := fun w c hc => by rw [rwu_ne _ _ (by omega), hUf c (by omega), hfr c hc]
        obtain ⟨hut, ⟨A, a1, a2, a3, a4⟩ | ⟨a1, a2⟩⟩ := hu
        · obtain ⟨_, ⟨B, b1, b2, b3, b4⟩ | ⟨b1, b2⟩⟩ := hUw
          · have ee : ∀ j, j < 13 → Y4 (457 + (8 - d)) j + z * Y4 (467 + (8 - d)) j = A j + z * B j := fun j hj => by rw [e57, a4 j hj, b4 j hj]
            rcases s8 with ⟨o, s8⟩ | ⟨o, s8⟩
            · have o2 := (fit_sum (s := z) a2 b2).mpr (sml_cg ee o)
              exact ⟨_, _, sFP _ _ s8, ⟨hut, Or.inl ⟨_, by rw [a1, b1]; exact zvf_y o2, o2, b3.trans a3, fun j hj => by rw [rwu_at]; exact ee j hj⟩⟩, ff _⟩
            · have o2 : ¬ fit13 (fun j => A j + z * B j) := fun q => o (sml_cg (fun j hj => (ee j hj).symm) q.1)
              exact ⟨_, _, sFP _ _ s8, ⟨hut, Or.inr ⟨by rw [a1, b1]; exact zvf_n o2, rfl⟩⟩, ff _⟩
          · rcases s8 with ⟨o, s8⟩ | ⟨o, s8⟩
            · exact ⟨_, _, sFP _ _ s8, ⟨hut, Or.inr ⟨by rw [a1, b1]; rfl, b2⟩⟩, ff _⟩
            · exact ⟨_, _, sFP _ _ s8, ⟨hut, Or.inr ⟨by rw [a1, b1]; rfl, rfl⟩⟩, ff _⟩
        · have n1 : zva P z (zv0 T tm f 1 d p (some pz_one) 1) = none := by rw [a1]; rfl
          have t41 : t4 = 1 := by
            obtain ⟨_, ⟨B, b1, b2, b3, b4⟩ | ⟨b1, b2⟩⟩ := hUw
            · exact b3.trans a2
            · exact b2
          rcases s8 with ⟨o, s8⟩ | ⟨o, s8⟩
          · exact ⟨_, _, sFP _ _ s8, ⟨hut, Or.inr ⟨n1, t41⟩⟩, ff _⟩
          · exact ⟨_, _, sFP _ _ s8, ⟨hut, Or.inr ⟨n1, rfl⟩⟩, ff _⟩
      have hl9 := rskp_le (T := T) c3
      have hg9 := rskp_ge (T := T) (tm := tm) c2
      -- the next product, with its sign
      have t99 : ∀ (y : Int) (b9 : Nat) (h9 : mj_H), (y = 0 ∨ y = 1) → b9 ≤ tm → i + 1 ≤ b9 → a0 ≤ b9 → rpr0 T tm f 2 d b9 = some res → zv0 T tm (f + 1) 2 d p P z = zv0 T tm f 2 d b9 (zva P z (zv0 T tm f 1 d p (some pz_one) 1)) (if y = 0 then -1 else 1) → rMt g n tx X0 (zkP (8 - d)) Y8 t8 (b9 : Int) (-1) h9 → mj_T (E + 7) mj_m49 99 [some (.ref 455), some (.int (jn (8 - (d : Int)))), some (.ref (457 + (8 - d))), some (.int (jn z)), some (.int (jn (i : Int))), some (.int (jn y))] [] h9 (rQ2t T tm g n tx X0 (zkP (8 - d)) a0 res (US d Y0 t0 (zv0 T tm (f + 1) 2 d p P z))) := fun y b9 h9 hy g2 g3 g4 hf9 ev9 s9 => by
        have t109 : ∀ z2 : Int, (z2 = 1 ∨ z2 = -1) → z2 = (if y = 0 then -1 else 1) → mj_T (E + 7) mj_m49 109 [some (.ref 455), some (.int (jn (8 - (d : Int)))), some (.ref (457 + (8 - d))), some (.int (jn z)), some (.int (jn (i : Int))), some (.int (jn y))] [.int (jn z2)] h9 (rQ2t T tm g n tx X0 (zkP (8 - d)) a0 res (US d Y0 t0 (zv0 T tm (f + 1) 2 d p P z))) := fun z2 hz2 hzy => by
          refine mj_T.pl (loc' := [some (.ref 455), some (.int (jn (8 - (d : Int)))), some (.ref (457 + (8 - d))), some (.int (jn z2)), some (.int (jn (i : Int))), some (.int (jn y))]) rfl rfl rfl rfl ?_
          refine mj_T.iinc (a := (i : Int)) rfl rfl ?_
          refine mj_T.eq (loc2 := [some (.ref 455), some (.int (jn (8 - (d : Int)))), some (.ref (457 + (8 - d))), some (.int (jn z2)), some (.int (jn ((i + 1 : Nat) : Int))), some (.int (jn y))]) ?_ rfl (by rw [show ((i + 1 : Nat) : Int) = (i : Int) + 1 by omega]; rfl) rfl rfl
          refine mj_T.pl rfl rfl rfl rfl ?_
          rw [ev9, ← hzy]
          exact ihf b9 (i + 1) z2 h9 res _ Y8 t8 _ u8 f8 g2 g3 g4 hz2 hf9 s9
        refine mj_T.pl rfl rfl rfl rfl ?_
        refine mj_T.if0 (a := y) rfl ⟨by omega, by omega⟩ (fun c => ?_) (fun c => ?_)
        · refine mj_T.pl rfl rfl rfl rfl ?_
          simp only [jc, Bool.not_eq_true', Bool.not_eq_false', decide_eq_true_eq, decide_eq_false_iff_not] at c
          exact t109 (-1) (Or.inr rfl) (if_pos c).symm
        · iterate 2 refine mj_T.pl rfl rfl rfl rfl ?_
          simp only [jc, Bool.not_eq_true', Bool.not_eq_false', decide_eq_true_eq, decide_eq_false_iff_not] at c
          exact t109 1 (Or.inl rfl) (if_neg c).symm
      iterate 2 refine mj_T.pl rfl rfl rfl rfl ?_
      refine mj_T.call rfl rfl (Nat.le_of_ble_eq_true rfl) (Nat.le_of_ble_eq_true rfl) (s8.rv (by decide) rfl _) rfl (mj_Ok.up (by omega) (rt_takes (D := 0) (c := 43) ⟨by decide, by decide⟩ hB ht hT c3 s8)) (fun v h9 hq => ?_) (fun i h9 hq => by rcases hq with ⟨_, _, _, _, hq⟩ | ⟨_, _, _, hq⟩ <;> cases hq)
      rcases hq with ⟨b9, _, ⟨g1, g2, g3⟩, s9, hq⟩ | ⟨_, g1, s9, hq⟩
      · cases hq
        rw [g1] at hf eVal
        refine mj_T.pl (loc' := [some (.ref 455), some (.int (jn (8 - (d : Int)))), some (.ref (457 + (8 - d))), some (.int (jn z)), some (.int (jn (i : Int))), some (.int (jn 1))]) rfl rfl rfl rfl ?_
        refine mj_T.pl rfl rfl rfl rfl ?_
        refine mj_T.if0 (a := 1) rfl ⟨by decide, by decide⟩ (fun _ => ?_) (fun hc2 => by simp [jc] at hc2)
        exact t99 1 b9 h9 (Or.inr rfl) g2 (by omega) (by omega) hf eVal s9
      · cases hq
        rw [g1] at hf eVal
        simp only at hf eVal
        refine mj_T.pl (loc' := [some (.ref 455), some (.int (jn (8 - (d : Int)))), some (.ref (457 + (8 - d))), some (.int (jn z)), some (.int (jn (i : Int))), some (.int (jn 0))]) rfl rfl rfl rfl ?_
        refine mj_T.pl rfl rfl rfl rfl ?_
        refine mj_T.if0 (a := 0) rfl ⟨by decide, by decide⟩ (fun hc2 => by simp [jc] at hc2) (fun _ => ?_)
        iterate 2 refine mj_T.pl rfl rfl rfl rfl ?_
        refine mj_T.call rfl rfl (Nat.le_of_ble_eq_true rfl) (Nat.le_of_ble_eq_true rfl) (s9.rv (by decide) rfl _) rfl (mj_Ok.up (by omega) (rt_takes (D := 0) (c := 45) ⟨by decide, by decide⟩ hB ht hT hl9 s9)) (fun v h10 hq => ?_) (fun i h10 hq => by rcases hq with ⟨_, _, _, _, hq⟩ | ⟨_, _, _, hq⟩ <;> cases hq)
        rcases hq with ⟨b9, _, ⟨g1, g2, g3⟩, s10, hq⟩ | ⟨_, g1, s10, hq⟩
        · cases hq
          rw [g1] at hf eVal
          refine mj_T.if0 (a := 1) rfl ⟨by decide, by decide⟩ (fun _ => ?_) (fun hc2 => by simp [jc] at hc2)
          exact t99 0 b9 h10 (Or.inl rfl) g2 (by omega) (by omega) hf eVal s10
        · cases hq
          rw [g1] at hf eVal
          cases hf
          rw [rskp_idem c3] at s10
          refine mj_T.if0 (a := 0) rfl ⟨by decide, by decide⟩ (fun hc2 => by simp [jc] at hc2) (fun _ => ?_)
          exact mj_T.ret rfl rfl rfl ⟨⟨_, rskp T tm c2, h10, Y8, t8, rfl, rfl, hl9, Or.inl ⟨rfl, rfl, by omega, s10, by rw [eVal]; exact ⟨u8, f8⟩⟩⟩, fun _ => rskp_idem c3⟩
theorem rt_sum {d E : Nat} (hB : bXt tx X0 tm T) (ht : tm ≤ 340) (hT : ∀ j : Nat, j < tm → 0 ≤ T j ∧ T j ≤ 255) (hd : d ≤ 8)
    (ih : ∀ (f p : Nat) (h : mj_H) (res : Bool × Nat) (Y : Nat → Nat → Int) (t : Int), (t = 0 ∨ t = 1) → p ≤ tm → rpr0 T tm f 1 d p = some res → rMt g n tx X0 (zkP (8 - d)) Y t (p : Int) (-1) h → mj_Ok (E + 7) 50 [.ref 455, .int (jn (8 - (d : Int)))] h (rQt T tm g n tx X0 (zkF (8 - d)) p res rV0 (UP d Y t (zv0 T tm f 1 d p (some pz_one) 1)))) (f p : Nat) (h : mj_H) (res : Bool × Nat) (Y : Nat → Nat → Int) (t : Int) (htt : t = 0 ∨ t = 1) (hp : p ≤ tm) (hf : rpr0 T tm f 3 d p = some res) (s : rMt g n tx X0 (zkS (8 - d)) Y t (p : Int) (-1) h) : mj_Ok (E + 8) 49 [.ref 455, .int (jn (8 - (d : Int)))] h (rQ2t T tm g n tx X0 (zkP (8 - d)) p res (US d Y t (zv0 T tm f 3 d p none 1))) := by
  obtain ⟨f, rfl⟩ : ∃ f0, f = f0 + 1 := by
    cases f with
    | zero => cases hf
    | succ f0 => exact ⟨f0, rfl⟩
  have eVal : zv0 T tm (f + 1) 3 d p none 1 = match rtk T tm 45 p with | some e => zv0 T tm f 2 d e (some pz_0) (-1) | none => zv0 T tm f 2 d (rskp T tm p) (some pz_0) 1 := rfl
  have kr : isRw (457 + (8 - d)) := isRw.s (by omega)
  have e8 : (8 - (d : Int)) = ((8 - d : Nat) : Int) := by omega
  unfold rpr0 at hf
  refine mj_Ok.of (M := mj_m49) (loc := [some (.ref 455), some (.int (jn (8 - (d : Int)))), none, none, none, none]) rfl rfl rfl ?_
  refine mj_T.pl rfl rfl rfl rfl ?_
  refine rt_g s rfl rfl ?_
  refine mj_T.pl rfl rfl rfl rfl ?_
  refine mj_T.call rfl rfl (Nat.le_of_ble_eq_true rfl) (Nat.le_of_ble_eq_true rfl) rfl rfl (by rw [e8]; exact mj_Ok.up (by omega) (rt_48 (D := 0) (b := 456) (k := 8 - d) s (Or.inl rfl) (by omega))) (fun v h1 hq => ?_) (fun i h1 hq => by cases hq)
  cases hq
  refine mj_T.eq (st2 := [.ref (457 + (8 - d))]) ?_ rfl rfl rfl rfl
  refine mj_T.pl (loc' := [some (.ref 455), some (.int (jn (8 - (d : Int)))), some (.ref (457 + (8 - d))), none, none, none]) rfl rfl rfl rfl ?_
  refine mj_T.pl rfl rfl rfl rfl ?_
  refine mj_T.call rfl rfl (Nat.le_of_ble_eq_true rfl) (Nat.le_of_ble_eq_true rfl) rfl rfl (mj_Ok.up (by omega) (rt_165 (D := 0) (Z' := zkP (8 - d)) s kr (fun c hc => by unfold zkP at hc; unfold zkS; omega))) (fun v h1 hq => ?_) (fun i h1 hq => by obtain ⟨_, _, hq⟩ := hq; cases hq)
  obtain ⟨_, s1, hq⟩ := hq
  cases hq
  iterate 2 refine mj_T.pl rfl rfl rfl rfl ?_
  refine mj_T.call rfl rfl (Nat.le_of_ble_eq_true rfl) (Nat.le_of_ble_eq_true rfl) (s1.rv (by decide) rfl _) rfl (mj_Ok.up (by omega) (rt_takes (D := 0) (c := 45) ⟨by decide, by decide⟩ hB ht hT hp s1)) (fun v h2 hq => ?_) (fun i h2 hq => by rcases hq with ⟨_, _, _, _, hq⟩ | ⟨_, _, _, hq⟩ <;> cases hq)
  have t27 : ∀ (z : Int) (b : Nat) (h2 : mj_H), (z = 1 ∨ z = -1) → b ≤ tm → p ≤ b → rpr0 T tm f 2 d b = some res → zv0 T tm (f + 1) 3 d p none 1 = zv0 T tm f 2 d b (some pz_0) z → rMt g n tx X0 (zkP (8 - d)) (rwu Y (457 + (8 - d)) (fun _ => 0)) t (b : Int) (-1) h2 → mj_T (E + 7) mj_m49 27 [some (.ref 455), some (.int (jn (8 - (d : Int)))), some (.ref (457 + (8 - d))), none, none, none] [.int (jn z)] h2 (rQ2t T tm g n tx X0 (zkP (8 - d)) p res (US d Y t (zv0 T tm (f + 1) 3 d p none 1))) := fun z b h2 hz hb hpb hf2 ev s2 => by
    refine mj_T.pl (loc' := [some (.ref 455), some (.int (jn (8 - (d : Int)))), some (.ref (457 + (8 - d))), some (.int (jn z)), none, none]) rfl rfl rfl rfl ?_
    iterate 2 refine mj_T.pl rfl rfl rfl rfl ?_
    rw [ev]
    exact rt_sum_loop hB ht hT hd ih Y t f b 0 z h2 res none _ t (some pz_0) ⟨htt, Or.inl ⟨_, rfl, fit_0, rfl, fun j hj => by rw [rwu_at]; rfl⟩⟩ (fun c hc => rwu_ne _ _ (by omega)) hb (Nat.zero_le _) hpb hz hf2 s2
  have hg := rskp_ge (T := T) (tm := tm) p
  have hl := rskp_le (T := T) hp
  rcases hq with ⟨b, _, ⟨b1, b2, b3⟩, s2, hq⟩ | ⟨_, b1, s2, hq⟩
  · cases hq
    rw [b1] at hf eVal
    refine mj_T.if0 (a := 1) rfl ⟨by decide, by decide⟩ (fun hc2 => by simp [jc] at hc2) (fun _ => ?_)
    iterate 2 refine mj_T.pl rfl rfl rfl rfl ?_
    exact t27 (-1) b h2 (Or.inr rfl) b2 (by omega) hf eVal s2
  · cases hq
    rw [b1] at hf eVal
    refine mj_T.if0 (a := 0) rfl ⟨by decide, by decide⟩ (fun _ => ?_) (fun hc2 => by simp [jc] at hc2)
    refine mj_T.pl rfl rfl rfl rfl ?_
    exact t27 1 _ h2 (Or.inl rfl) hl hg hf eVal s2
theorem rt_all (hB : bXt tx X0 tm T) (ht : tm ≤ 340) (hT : ∀ j : Nat, j < tm → 0 ≤ T j ∧ T j ≤ 255) : ∀ d, d ≤ 8 → ∀ (f p : Nat) (h : mj_H) (res : Bool × Nat) (Y : Nat → Nat → Int) (t : Int), (t = 0 ∨ t = 1) → p ≤ tm → rpr0 T tm f 3 d p = some res → rMt g n tx X0 (zkS (8 - d)) Y t (p : Int) (-1) h → mj_Ok (3 * d + 8) 49 [.ref 455, .int (jn (8 - (d : Int)))] h (rQ2t T tm g n tx X0 (zkP (8 - d)) p res (US d Y t (zv0 T tm f 3 d p none 1))) := by
  intro d
  induction d with
  | zero =>
    intro _ f p h res Y t htt hp hf s
    refine rt_sum (E := 0) hB ht hT (by decide) (fun f p h res Y t htt hp hf s => ?_) f p h res Y t htt hp hf s
    exact rt_product (E := 0) hB ht hT (by decide) (fun f p h res Y t htt hp hf s => rt_factor (E := 5) hB ht hT (by decide) (Nat.le_refl 5) htt (fun d' e => by omega) hp hf s) f p h res Y t htt hp hf s
  | succ d ihd =>
    intro hd f p h res Y t htt hp hf s
    have e : 3 * (d + 1) + 8 = (3 * d + 3) + 8 := by omega
    rw [e]
    refine rt_sum (E := 3 * d + 3) hB ht hT hd (fun f p h res Y t htt hp hf s => ?_) f p h res Y t htt hp hf s
    refine rt_product (E := 3 * d + 3) hB ht hT hd (fun f p h res Y t htt hp hf s => ?_) f p h res Y t htt hp hf s
    exact rt_factor (E := 3 * d + 8) hB ht hT hd (by omega) htt (fun d' e f p h res Y t htt hp hf s => by
      have e2 : d = d' := by omega
      subst e2
      exact (ihd (by omega) f p h res Y t htt hp hf s).to (fun r q => q.1)) hp hf s
end JRG2t
/-! The class: errors, append, clearText keep the registers. -/
theorem CR.of17 {X X1 : Nat → Nat → Int} {N : Nat → Int} {u : Nat} {H : Nat → Nat → Int} (h2 : X1 1 2 = X 1 2) (h3 : X1 1 3 = X 1 3) (h : ∀ c, (2 ≤ c ∧ c < 12) ∨ 483 ≤ c → X1 c = X c) (tl : TL X1) (c : CR X N u H) : CR X1 N u H := by
  obtain ⟨e, he, q3, q2, b, bh, _⟩ := c
  exact ⟨e, he, h3.trans q3, h2.trans q2, b.cg (fun c c1 c2 => h c (by omega)), fun k hk => (bh k hk).cg (fun c c1 c2 => h c (by omega)), tl⟩
section MAD
variable {g h : mj_H} {n D a b : Nat} {V : Nat → Int} {X : Nat → Nat → Int}
theorem mD_addsDegrees (m : jM g n V X h) (ka : cK a = 2) (kb : cK b = 2) (hb_a : sml (X a)) (hb_b : sml (X b)) : mj_Ok (D + 4) 15 [.ref 19, .ref a, .ref b] h (fun z => ∃ (V2 : Nat → Int) (X2 : Nat → Nat → Int) (h2 : mj_H) (y : Int), jM g n V2 X2 h2 ∧ dF V V2 ∧ xF (fun _ => False) X X2 ∧ (y = 0 ∨ y = 1) ∧ z = (.inl (some (.int (jn y))), h2)) := by
  refine mj_Ok.of (M := mj_m15) rfl rfl rfl ?_
  refine mj_T.pl rfl rfl rfl rfl ?_
  refine mT_get m 11 cq_d19 (by decide) rfl rfl ?_
  refine mj_T.pl rfl rfl rfl rfl ?_
  refine jT.lc 1 rfl rfl ?_
  refine mj_T.call rfl rfl (Nat.le_of_ble_eq_true rfl) (Nat.le_of_ble_eq_true rfl) (mV_of m 13 cq_d20 (by decide) rfl (by decide) rfl _) rfl (mj_Ok.up (by omega) (mP_load1 (D := 0) m cq_d20 ka (by decide +kernel) (by exact hb_a) (fun i hi => by have := mK_z.2.2.2.2.1 i hi; omega))) (fun v g1 hq => ?_) (fun i g1 hq => ?_)
  rotate_left
  · obtain ⟨_, _, hq⟩ := hq; cases hq
  obtain ⟨_, m2, hq⟩ := hq
  cases hq
  refine mj_T.eq (pc2 := 9) (st2 := []) ?_ rfl rfl rfl rfl
  refine mj_T.pl rfl rfl rfl rfl ?_
  refine mT_get m2 11 cq_d19 (by decide) rfl rfl ?_
  refine mj_T.pl rfl rfl rfl rfl ?_
  refine jT.lc 1 rfl rfl ?_
  refine mj_T.call rfl rfl (Nat.le_of_ble_eq_true rfl) (Nat.le_of_ble_eq_true rfl) (mV_of m2 13 cq_d50 (by decide) rfl (by decide) rfl _) rfl (mj_Ok.up (by omega) (mP_load1 (D := 0) m2 cq_d50 kb (by decide +kernel) (by rw [show (xup X 20 2 ((fdg (X a) 13 : Int) - 1)) b = X b from (funext fun j => xup_ne _ _ (Or.inl (kR_ne kb).1))]; exact hb_b) (fun i hi => by have := mK_z.2.2.2.2.1 i hi; omega))) (fun v g3 hq => ?_) (fun i g3 hq => ?_)
  rotate_left
  · obtain ⟨_, _, hq⟩ := hq; cases hq
  obtain ⟨_, m4, hq⟩ := hq
  cases hq
  rw [show (xup X 20 2 ((fdg (X a) 13 : Int) - 1)) b = X b from (funext fun j => xup_ne _ _ (Or.inl (kR_ne kb).1))] at m4
  refine mj_T.eq (pc2 := 18) (st2 := []) ?_ rfl rfl rfl rfl
  iterate 2 refine mj_T.pl rfl rfl rfl rfl ?_
  refine mT_get m4 11 cq_d19 (by decide) rfl rfl ?_
  refine mj_T.pl rfl rfl rfl rfl ?_
  refine mT_get m4 11 cq_d19 (by decide) rfl rfl ?_
  refine mj_T.pl rfl rfl rfl rfl ?_
  refine mT_get m4 11 cq_d19 (by decide) rfl rfl ?_
  refine mj_T.call rfl rfl (Nat.le_of_ble_eq_true rfl) (Nat.le_of_ble_eq_true rfl) (mV_of m4 11 cq_d19 (by decide) rfl (by decide) rfl _) rfl (mD_times2 (D := D) m4 ka kb hb_a hb_b) (fun v g1 hq => ?_) (fun i g1 hq => ?_)
  rotate_left
  · obtain ⟨_, _, _, _, hq⟩ := hq; cases hq
  obtain ⟨z1, z2, _, m9, hq⟩ := hq
  cases hq
  have hd : dF V (pfl (scr (pfl (pfl V 20 (X a) 13) 50 (X b) 13) z1 z2) 110 (pz_mul (rw13 (X a)) (rw13 (X b))) 25) := (dF.pfl (by omega)).tr ((dF.pfl (by omega)).tr ((dF.scr _ z1 z2).tr (dF.pfl (by omega))))
  have hx : xF (fun _ => False) X (xup (xup (xup X 20 2 ((fdg (X a) 13 : Int) - 1)) 50 2 ((fdg (X b) 13 : Int) - 1)) 110 2 ((fdg (pz_mul (rw13 (X a)) (rw13 (X b))) 25 : Int) - 1)) := (xF.deg (by omega)).tr ((xF.deg (by omega)).tr (xF.deg (by omega)))
  have la := fdg_le (X a) 13
  have lb := fdg_le (X b) 13
  have lp := fdg_le (pz_mul (rw13 (X a)) (rw13 (X b))) 25
  generalize hXX : (xup (xup (xup X 20 2 ((fdg (X a) 13 : Int) - 1)) 50 2 ((fdg (X b) 13 : Int) - 1)) 110 2 ((fdg (pz_mul (rw13 (X a)) (rw13 (X b))) 25 : Int) - 1)) = X9 at m9 hx
  have v20 : X9 20 2 = (fdg (X a) 13 : Int) - 1 := by rw [← hXX, xup_ne _ _ (Or.inl (by decide)), xup_ne _ _ (Or.inl (by decide)), xup_at]
  have v50 : X9 50 2 = (fdg (X b) 13 : Int) - 1 := by rw [← hXX, xup_ne _ _ (Or.inl (by decide)), xup_at]
  have v110 : X9 110 2 = (fdg (pz_mul (rw13 (X a)) (rw13 (X b))) 25 : Int) - 1 := by rw [← hXX, xup_at]
  clear hXX
  refine mj_T.eq (pc2 := 34) (st2 := [.int (jn 1)]) ?_ rfl rfl rfl rfl
  have t74 : ∀ z : Int, -2 ≤ z ∧ z ≤ 24 → mj_T (D + 3) mj_m15 74 [some (.ref 19), some (.ref a), some (.ref b), none] [.int (jn z)] g1 (fun z => ∃ (V2 : Nat → Int) (X2 : Nat → Nat → Int) (h2 : mj_H) (y : Int), jM g n V2 X2 h2 ∧ dF V V2 ∧ xF (fun _ => False) X X2 ∧ (y = 0 ∨ y = 1) ∧ z = (.inl (some (.int (jn y))), h2)) := fun z hz => by
    refine mj_T.pl (loc' := [some (.ref 19), some (.ref a), some (.ref b), some (.int (jn z))]) rfl rfl rfl rfl ?_
    refine mj_T.pl rfl rfl rfl rfl ?_
    refine mT_get m9 11 cq_d19 (by decide) rfl rfl ?_
    refine mT_get (v := .int (jn ((fdg (pz_mul (rw13 (X a)) (rw13 (X b))) 25 : Int) - 1))) m9 13 cq_d110 (by decide) rfl (congrArg (fun z : Int => some (Value.int (jn z))) v110) ?_
    refine mj_T.pl rfl rfl rfl rfl ?_
    refine mj_T.icmp (a := ((fdg (pz_mul (rw13 (X a)) (rw13 (X b))) 25 : Int) - 1)) (b := z) rfl ⟨by omega, by omega⟩ ⟨by omega, by omega⟩ (fun _ => ?_) (fun _ => ?_)
    · refine mj_T.pl rfl rfl rfl rfl ?_
      exact mj_T.ret rfl rfl rfl ⟨_, _, _, 0, m9, hd, hx, Or.inl rfl, rfl⟩
    · iterate 2 refine mj_T.pl rfl rfl rfl rfl ?_
      exact mj_T.ret rfl rfl rfl ⟨_, _, _, 1, m9, hd, hx, Or.inr rfl, rfl⟩
  have t55 : mj_T (D + 3) mj_m15 55 [some (.ref 19), some (.ref a), some (.ref b), none] [] g1 (fun z => ∃ (V2 : Nat → Int) (X2 : Nat → Nat → Int) (h2 : mj_H) (y : Int), jM g n V2 X2 h2 ∧ dF V V2 ∧ xF (fun _ => False) X X2 ∧ (y = 0 ∨ y = 1) ∧ z = (.inl (some (.int (jn y))), h2)) := by
    iterate 2 refine mj_T.pl rfl rfl rfl rfl ?_
    exact t74 (-1) ⟨by decide, by decide⟩
  iterate 2 refine mj_T.pl rfl rfl rfl rfl ?_
  refine mT_get m9 11 cq_d19 (by decide) rfl rfl ?_
  refine mT_get (v := .int (jn ((fdg (X a) 13 : Int) - 1))) m9 13 cq_d20 (by decide) rfl (congrArg (fun z : Int => some (Value.int (jn z))) v20) ?_
  refine mj_T.if0 (a := (fdg (X a) 13 : Int) - 1) rfl ⟨by omega, by omega⟩ (fun _ => t55) (fun _ => ?_)
  refine mj_T.pl rfl rfl rfl rfl ?_
  refine mT_get m9 11 cq_d19 (by decide) rfl rfl ?_
  refine mT_get (v := .int (jn ((fdg (X b) 13 : Int) - 1))) m9 13 cq_d50 (by decide) rfl (congrArg (fun z : Int => some (Value.int (jn z))) v50) ?_
  refine mj_T.if0 (a := (fdg (X b) 13 : Int) - 1) rfl ⟨by omega, by omega⟩ (fun _ => ?_) (fun _ => t55)
  refine mj_T.pl rfl rfl rfl rfl ?_
  refine mT_get m9 11 cq_d19 (by decide) rfl rfl ?_
  refine mT_get (v := .int (jn ((fdg (X a) 13 : Int) - 1))) m9 13 cq_d20 (by decide) rfl (congrArg (fun z : Int => some (Value.int (jn z))) v20) ?_
  refine mj_T.pl rfl rfl rfl rfl ?_
  refine mT_get m9 11 cq_d19 (by decide) rfl rfl ?_
  refine mT_get (v := .int (jn ((fdg (X b) 13 : Int) - 1))) m9 13 cq_d50 (by decide) rfl (congrArg (fun z : Int => some (Value.int (jn z))) v50) ?_
  refine mj_T.iadd rfl ?_
  exact t74 _ ⟨by omega, by omega⟩
end MAD
/-- the reader begins -/
def rX1t (X : Nat → Nat → Int) (tx tm : Nat) : Nat → Nat → Int := fun a j => if a = 455 then (if j = 1 then (tx : Int) else if j = 2 then 0 else if j = 3 then -1 else if j = 4 then 0 else X 455 j) else if a = tx then (if j = 1 then (tm : Int) else X tx j) else X a j
theorem rX1t_o (X : Nat → Nat → Int) (tx tm : Nat) {a : Nat} (h1 : a ≠ 455) (h2 : a ≠ tx) : rX1t X tx tm a = X a := funext fun j => by
  unfold rX1t
  rw [if_neg h1, if_neg h2]
section RMAt
variable {D tm n tx : Nat} {T : Nat → Int} {g h h' : mj_H} {X Y : Nat → Nat → Int} {V : Nat → Int}
theorem rMt_start (m : jM g n V X h) (b0 : by0 V) (d : DG X) (h3 : tx = 13 ∨ tx = 15 ∨ tx = 17) (hB : jBt tx tm T h) : rMt g n tx (rX1t X tx tm) (fun _ => False) Y 0 0 (-1) (h.set 455 (.inr (4, RFt tx 0 (-1) 0))) ∧ bXt tx (rX1t X tx tm) tm T := by
  have hl := (List.getElem?_eq_some_iff.mp (m.O 14 cq_d455 (by decide))).1
  have k1 := (cq_tx h3).1
  have hm : jM g n V (rX1t X tx tm) (h.set 455 (.inr (4, RFt tx 0 (-1) 0))) := by
    refine m.up (fun x => x = 455 ∨ x = tx) (by rw [List.length_set]) (fun x hx => ?_) (fun p hp => List.getElem?_set_ne (fun e => hp (Or.inl e.symm))) (fun _ _ => rfl) (fun x hx => rX1t_o X tx tm (fun e => hx (Or.inl e)) (fun e => hx (Or.inr e))) (fun x hx => ?_) (fun x hx => ?_)
    · rcases hx with rfl | rfl
      · rw [cq_d455]
        decide
      · omega
    · have w := mK_w hx
      constructor
      · intro e
        rcases e with rfl | rfl
        · rw [cq_d455] at hx
          omega
        · omega
      · intro e
        rcases e with e | e
        · rw [e, cq_d455] at w
          omega
        · rw [e] at w
          omega
    · rcases hx with rfl | rfl
      · unfold jMk
        rw [cq_d455, if_neg (by decide), if_neg (by decide), if_neg (by decide), if_neg (by decide), if_neg (by decide), if_neg (by decide), if_neg (by decide), List.getElem?_set_self hl]
        rfl
      · have hne : (455 : Nat) ≠ x := by omega
        have ex : jMf (rX1t X x tm) (cK x) x = [.ref (x + 1), .int (jn (tm : Int))] := by
          have e9 : rX1t X x tm x 1 = (tm : Int) := by
            unfold rX1t
            rw [if_neg (by omega), if_pos rfl, if_pos rfl]
          rcases k1 with k1 | k1
          · rw [k1]
            show [Value.ref (x + 1), .int (jn (rX1t X x tm x 1))] = _
            rw [e9]
          · rw [k1]
            show [Value.ref (x + 1), .int (jn (rX1t X x tm x 1))] = _
            rw [e9]
        have ek : jkc (cK x) = 7 := by
          rcases k1 with k1 | k1 <;> rw [k1] <;> rfl
        unfold jMk
        rw [if_neg (by omega), if_neg (by omega), if_neg (by omega), if_neg (by omega), if_neg (by omega), if_neg (by omega), if_neg (by omega), List.getElem?_set_ne hne, hB.1, ex, ek]
  refine ⟨⟨V, _, hm, ⟨b0, d.of (fun p kp => rX1t_o X tx tm (fun e => ?_) (fun e => ?_)), sBn.rf _⟩, ⟨rfl, rfl, rfl, rfl⟩, fun c hc => hc.elim⟩, h3, ?_, ?_, fun j hj => ?_⟩
  · rw [e, cq_d455] at kp
    omega
  · rw [e] at kp
    omega
  · unfold rX1t
    rw [if_neg (by omega), if_pos rfl, if_pos rfl]
  · obtain ⟨L, f, l1, l2, f1, f2⟩ := hB.2
    have h1 := m.2.2 (tx + 1)
    rw [(cq_tx h3).2.1] at h1
    have h2 : h[tx + 1]? = some (.inl (2, cL (tx + 1), fun j => .int (jn (X (tx + 1) j)))) := h1
    rw [h2] at f1
    injection f1 with f1
    injection f1 with f1
    have := (Prod.mk.inj (Prod.mk.inj f1).2).1
    omega
  · have h1 := m.2.2 (tx + 1)
    rw [(cq_tx h3).2.1] at h1
    have h2 : h[tx + 1]? = some (.inl (2, cL (tx + 1), fun j => .int (jn (X (tx + 1) j)))) := h1
    obtain ⟨L, f, l1, l2, f1, f2⟩ := hB.2
    rw [h2] at f1
    injection f1 with f1
    injection f1 with f1
    have f3 := (Prod.mk.inj (Prod.mk.inj f1).2).2
    obtain ⟨x, x1, x2⟩ := f2 j hj
    rw [← f3] at x1
    have x3 : jn (X (tx + 1) j) = x := by
      injection x1
    rw [rX1t_o X tx tm (by omega) (by omega), x3]
    exact x2
theorem rt_accepts (m : jM g n V X h) (b0 : by0 V) (d : DG X) (h3 : tx = 13 ∨ tx = 15 ∨ tx = 17) (hB0 : jBt tx tm T h) (ht : tm ≤ 340) (hT : ∀ j : Nat, j < tm → 0 ≤ T j ∧ T j ≤ 255) : mj_Ok 40 46 [.ref 455, .ref tx] h (fun r => ∃ (p : Nat) (h2 : mj_H) (Y2 : Nat → Nat → Int) (t2 : Int) (Z2 : Nat → Prop), jr (rdErr T tm) ∧ rMt g n tx (rX1t X tx tm) Z2 Y2 t2 (p : Int) (rdErr T tm) h2 ∧ (rdErr T tm = -1 → Z2 457 ∧ U0 (rdV T tm) 0 t2 (Y2 457)) ∧ r = (.inl (some (.int (jn (if rdErr T tm = -1 then 1 else 0)))), h2)) := by
  have hc := m.O 14 cq_d455 (by decide)
  have hl := (List.getElem?_eq_some_iff.mp hc).1
  refine mj_Ok.of (M := mj_m46) (loc := [some (.ref 455), some (.ref tx)]) rfl rfl rfl ?_
  iterate 2 refine mj_T.pl rfl rfl rfl rfl ?_
  refine mj_T.pfl rfl hc (Nat.le_of_ble_eq_true rfl) rfl ?_
  iterate 2 refine mj_T.pl rfl rfl rfl rfl ?_
  refine mj_T.pfl rfl (List.getElem?_set_self hl) (Nat.le_of_ble_eq_true rfl) rfl ?_
  rw [List.set_set]
  iterate 2 refine mj_T.pl rfl rfl rfl rfl ?_
  refine mj_T.pfl rfl (List.getElem?_set_self hl) (Nat.le_of_ble_eq_true rfl) rfl ?_
  rw [List.set_set]
  iterate 2 refine mj_T.pl rfl rfl rfl rfl ?_
  refine mj_T.pfl rfl (List.getElem?_set_self hl) (Nat.le_of_ble_eq_true rfl) rfl ?_
  rw [List.set_set]
  obtain ⟨s1, hB⟩ := rMt_start (Y := fun _ _ => 0) m b0 d h3 hB0
  obtain ⟨h1, hh1⟩ : ∃ z, z = h.set 455 (.inr (4, RFt tx 0 (-1) 0)) := ⟨_, rfl⟩
  rw [← hh1] at s1
  refine mj_T.eq (h2 := h1) ?_ rfl rfl rfl (by rw [hh1]; rfl)
  obtain ⟨hre, hrb⟩ := rdR_eq T tm
  obtain ⟨res, hres⟩ : ∃ z, rdR T tm = z := ⟨_, rfl⟩
  rw [hres] at hre hrb
  have t55 : ∀ (x : Int) (p : Nat) (h2 : mj_H) (Y2 : Nat → Nat → Int) (t2 : Int) (Z2 : Nat → Prop), jr x → p ≤ tm → rdErr T tm = x → rMt g n tx (rX1t X tx tm) Z2 Y2 t2 (p : Int) x h2 → (x = -1 → Z2 457 ∧ U0 (rdV T tm) 0 t2 (Y2 457)) → mj_T 39 mj_m46 55 [some (.ref 455), some (.ref tx)] [] h2 (fun r => ∃ (p : Nat) (h2 : mj_H) (Y2 : Nat → Nat → Int) (t2 : Int) (Z2 : Nat → Prop), jr (rdErr T tm) ∧ rMt g n tx (rX1t X tx tm) Z2 Y2 t2 (p : Int) (rdErr T tm) h2 ∧ (rdErr T tm = -1 → Z2 457 ∧ U0 (rdV T tm) 0 t2 (Y2 457)) ∧ r = (.inl (some (.int (jn (if rdErr T tm = -1 then 1 else 0)))), h2)) := fun x p h2 Y2 t2 Z2 jx hp ex s2 hu => by
    rw [ex]
    refine mj_T.pl rfl rfl rfl rfl ?_
    refine rt_g s2 rfl rfl ?_
    refine mj_T.pl rfl rfl rfl rfl ?_
    refine mj_T.icmp (a := x) (b := -1) rfl jx ⟨by decide, by decide⟩ (fun c => ?_) (fun c => ?_)
    · simp only [jc, Bool.not_eq_true', decide_eq_false_iff_not] at c
      refine mj_T.pl rfl rfl rfl rfl ?_
      exact mj_T.ret rfl rfl rfl ⟨p, h2, Y2, t2, Z2, jx, s2, hu, by rw [if_neg c]⟩
    · simp only [jc, Bool.not_eq_false', decide_eq_true_eq] at c
      iterate 2 refine mj_T.pl rfl rfl rfl rfl ?_
      exact mj_T.ret rfl rfl rfl ⟨p, h2, Y2, t2, Z2, jx, s2, hu, by rw [if_pos c]⟩
  iterate 2 refine mj_T.pl rfl rfl rfl rfl ?_
  refine mj_T.eq (st2 := [.int (jn (8 - ((8 : Nat) : Int))), .ref 455]) ?_ rfl rfl rfl rfl
  refine mj_T.call rfl rfl (Nat.le_of_ble_eq_true rfl) (Nat.le_of_ble_eq_true rfl) (s1.rv (by decide) rfl _) rfl (mj_Ok.up (by decide) (rt_all hB ht hT 8 (by decide) (rdF tm) 0 h1 res (fun _ _ => 0) 0 (Or.inl rfl) (Nat.zero_le _) hre (s1.mono (fun c hc => by unfold zkS at hc; omega)))) (fun v h4 hq => ?_) (fun i h4 hq => by obtain ⟨⟨_, _, _, _, _, hq, _⟩, _⟩ := hq; cases hq)
  obtain ⟨⟨v2, c2, h5, Y4, t4, hq, hv, c3, c4⟩, hsk⟩ := hq
  cases hv
  cases hq
  refine mj_T.pl rfl rfl rfl rfl ?_
  rcases c4 with ⟨e1, e2, e3, s4, hU⟩ | ⟨e1, e2, s4⟩
  rotate_left
  · refine rt_g s4 rfl rfl ?_
    refine mj_T.pl rfl rfl rfl rfl ?_
    refine mj_T.icmp (a := (res.2 : Int)) (b := -1) rfl ⟨by omega, by omega⟩ ⟨by decide, by decide⟩ (fun _ => ?_) (fun c => ?_)
    · exact t55 _ c2 h4 _ _ _ ⟨by omega, by omega⟩ c3 (by unfold rdErr; rw [hres, e1]; rfl) s4 (fun q => by omega)
    · simp only [jc, Bool.not_eq_false', decide_eq_true_eq] at c
      omega
  have hb := s4.jBt hB
  have hsk2 := hsk e1
  refine rt_g s4 rfl rfl ?_
  refine mj_T.pl rfl rfl rfl rfl ?_
  refine mj_T.icmp (a := -1) (b := -1) rfl ⟨by decide, by decide⟩ ⟨by decide, by decide⟩ (fun c => absurd c (by decide)) (fun _ => ?_)
  refine mj_T.pl rfl rfl rfl rfl ?_
  refine rt_g s4 rfl rfl ?_
  refine mj_T.pl rfl rfl rfl rfl ?_
  refine rt_g s4 rfl rfl ?_
  refine mj_T.gfl rfl hb.1 rfl ?_
  refine mj_T.icmp (a := (c2 : Int)) (b := (tm : Int)) rfl ⟨by omega, by omega⟩ ⟨by omega, by omega⟩ (fun c => ?_) (fun c => ?_)
  · have c := of_decide_eq_true c
    refine t55 (-1) c2 h4 _ _ _ ⟨by decide, by decide⟩ c3 ?_ s4 (fun _ => ⟨Or.inl ⟨by decide, by decide⟩, hU.1⟩)
    unfold rdErr
    rw [hres, if_pos e1, if_pos (by rw [hsk2]; omega)]
  · have c := of_decide_eq_false c
    iterate 2 refine mj_T.pl rfl rfl rfl rfl ?_
    refine rt_g s4 rfl rfl ?_
    refine rt_p3 s4 rfl (fun h6 s6 => ?_)
    refine t55 (c2 : Int) c2 h6 _ _ _ ⟨by omega, by omega⟩ c3 ?_ s6 (fun q => by omega)
    unfold rdErr
    rw [hres, if_pos e1, if_neg (by rw [hsk2]; omega), hsk2, e2]
end RMAt
section MER
variable {g h : mj_H} {n u : Nat} {N : Nat → Int} {H : Nat → Nat → Int} {V : Nat → Int} {X : Nat → Nat → Int}
theorem i255 (x : Int32) : 0 ≤ (x &&& Int32.ofInt 255).toInt ∧ (x &&& Int32.ofInt 255).toInt ≤ 255 := by
  have h1 : (x &&& Int32.ofInt 255).toBitVec.toNat = x.toBitVec.toNat % 256 := by
    rw [Int32.toBitVec_and, BitVec.toNat_and, show (Int32.ofInt 255).toBitVec.toNat = 2 ^ 8 - 1 from by decide, Nat.and_two_pow_sub_one_eq_mod]
  have h2 : (x &&& Int32.ofInt 255).toInt = ((x &&& Int32.ofInt 255).toBitVec.toNat : Int) := by
    show (x &&& Int32.ofInt 255).toBitVec.toInt = _
    rw [BitVec.toInt_eq_toNat_cond, if_pos (by rw [h1]; omega)]
  rw [h2, h1]
  omega
/-- a text of which only the length is known -/
theorem jM.text {t : Nat} (m : jM g n V X h) (ht : t = 15 ∨ t = 17) (hx : 0 ≤ X t 1 ∧ X t 1 ≤ 340) : jBt t (X t 1).toNat (fun j => (jn (X (t + 1) j) &&& Int32.ofInt 255).toInt) h := by
  have kt : cK t = 17 := by
    rcases ht with rfl | rfl
    · exact cq_t.1.1
    · exact cq_t.2.1
  have kc : cK (t + 1) = 3 ∧ cL (t + 1) = 340 := by
    rcases ht with rfl | rfl
    · exact ⟨cq_t.1.2.1, cq_t.1.2.2.2.1⟩
    · exact ⟨cq_t.2.2.1, cq_t.2.2.2.2⟩
  refine ⟨?_, 340, fun j => .int (jn (X (t + 1) j)), by decide, by omega, ?_, fun j hj => ⟨_, rfl, ?_⟩⟩
  · have h1 := m.O 17 kt (by decide)
    rw [h1]
    show some (Sum.inr (7, [Value.ref (t + 1), .int (jn (X t 1))])) = _
    rw [Int.toNat_of_nonneg hx.1]
  · have h1 := m.2.2 (t + 1)
    rw [kc.1] at h1
    have h2 : h[t + 1]? = some (.inl (2, cL (t + 1), fun j => .int (jn (X (t + 1) j)))) := h1
    rw [kc.2] at h2
    exact h2
  · exact (jn_of _).symm
theorem mE_rows {i : Nat} {D pc r1 r2 r3 r4 r5 : Nat} {M : mj_M} {loc : mj_L} {st : List Value} {Q : mj_R → Prop} (m : jM g n V X h) (hi : i < 6) (hc : M.2.2.2.2.1 pc = some (.aaload, r1, r2, r3, r4, r5)) (k : mj_T D M (pc + 1) loc (.ref (4 + i) :: st) h Q) : mj_T D M pc loc (.int (jn (i : Int)) :: .ref 3 :: st) h Q := by
  have l2 := (mK_b cq_d2).2.1
  have l3 : cL 3 = 6 := l2
  refine mT_aald (i := (i : Int)) m 6 (mK_b cq_d2).1 (by decide) rfl hc (by omega) ⟨by omega, by omega⟩ ?_
  rw [Int.toNat_natCast]
  exact k
theorem mE_len {D pc r1 r2 r3 r4 r5 : Nat} {M : mj_M} {loc : mj_L} {st : List Value} {Q : mj_R → Prop} (m : jM g n V X h) (hc : M.2.2.2.2.1 pc = some (.arraylength, r1, r2, r3, r4, r5)) (k : mj_T D M (pc + 1) loc (.int (jn 6) :: st) h Q) : mj_T D M pc loc (.ref 3 :: st) h Q := by
  have l2 := (mK_b cq_d2).2.1
  refine mT_alen m 6 (mK_b cq_d2).1 (by decide) hc ?_
  have e : cL 3 = 6 := l2
  rw [e]
  exact k
theorem er_inner (A : AS N u H) {a : Nat} (ha : a < 6) {Q : mj_R → Prop} (hend : ∀ (w : Int) (l3 : Option Value) (h : mj_H), cS g n N u H h → mj_T 59 mj_m148 69 [some (.ref 1), some (.int (jn w)), some (.int (jn (a : Int))), l3] [] h Q) : ∀ (k b : Nat), b + k = 6 → ∀ (w : Int) (h : mj_H), cS g n N u H h → mj_T 59 mj_m148 20 [some (.ref 1), some (.int (jn w)), some (.int (jn (a : Int))), some (.int (jn (b : Int)))] [] h Q := by
  intro k
  induction k with
  | zero =>
    intro b hb w h s
    obtain ⟨V, X, m, b0, d, c⟩ := id s
    iterate 2 refine mj_T.pl rfl rfl rfl rfl ?_
    refine mT_get m 19 cq_d1 (by decide) rfl rfl ?_
    refine mT_get m 10 cq_d2 (by decide) rfl rfl ?_
    refine mE_len m rfl ?_
    refine mj_T.icmp (a := (b : Int)) (b := 6) rfl ⟨by omega, by omega⟩ ⟨by decide, by decide⟩ (fun _ => hend w _ h s) (fun q => ?_)
    simp only [jc, Bool.not_eq_true', Bool.not_eq_false', decide_eq_true_eq, decide_eq_false_iff_not] at q
    omega
  | succ k ih =>
    intro b hb w h s
    obtain ⟨V, X, m, b0, d, c⟩ := id s
    iterate 2 refine mj_T.pl rfl rfl rfl rfl ?_
    refine mT_get m 19 cq_d1 (by decide) rfl rfl ?_
    refine mT_get m 10 cq_d2 (by decide) rfl rfl ?_
    refine mE_len m rfl ?_
    refine mj_T.icmp (a := (b : Int)) (b := 6) rfl ⟨by omega, by omega⟩ ⟨by decide, by decide⟩ (fun q => ?_) (fun _ => ?_)
    · simp only [jc, Bool.not_eq_true', Bool.not_eq_false', decide_eq_true_eq, decide_eq_false_iff_not] at q
      omega
    refine mj_T.pl rfl rfl rfl rfl ?_
    refine mT_get m 19 cq_d1 (by decide) rfl rfl ?_
    refine mj_T.pl rfl rfl rfl rfl ?_
    refine mT_get m 19 cq_d1 (by decide) rfl rfl ?_
    refine mT_get m 10 cq_d2 (by decide) rfl rfl ?_
    refine mj_T.pl rfl rfl rfl rfl ?_
    refine mE_rows m ha rfl ?_
    refine mj_T.pl rfl rfl rfl rfl ?_
    refine mT_get m 19 cq_d1 (by decide) rfl rfl ?_
    refine mT_get m 10 cq_d2 (by decide) rfl rfl ?_
    refine mj_T.pl rfl rfl rfl rfl ?_
    refine mE_rows m (i := b) (by omega) rfl ?_
    have sa := c.sm A.1 (a := (a : Int)) ⟨by omega, by omega⟩
    have sb := c.sm A.1 (a := (b : Int)) ⟨by omega, by omega⟩
    rw [Int.toNat_natCast] at sa sb
    refine mj_T.call rfl rfl (Nat.le_of_ble_eq_true rfl) (Nat.le_of_ble_eq_true rfl) (mV_of m 11 cq_d19 (by decide) rfl (by decide) rfl _) rfl (mj_Ok.up (by decide) (mD_addsDegrees (D := 0) m (mK_rt a ha) (mK_rt b (by omega)) sa sb)) (fun v h1 hq => ?_) (fun i h1 hq => by obtain ⟨_, _, _, _, _, _, _, _, hq⟩ := hq; cases hq)
    obtain ⟨V2, X2, _, y, m2, df, xf, hy, hq⟩ := hq
    cases hq
    have xf2 := xf.mono (S' := fun x => x = 481) (fun a h => h.elim)
    have s1 : cS g n N u H h1 := ⟨V2, X2, m2, b0.dF df, d.xF xf2, c.sb (sBn.xF xf2)⟩
    refine mj_T.eq (pc2 := 57) (st2 := [.int (jn y)]) ?_ rfl rfl rfl rfl
    have t63 : ∀ w : Int, mj_T 59 mj_m148 63 [some (.ref 1), some (.int (jn w)), some (.int (jn (a : Int))), some (.int (jn (b : Int)))] [] h1 Q := fun w => by
      refine mj_T.iinc (a := (b : Int)) rfl rfl ?_
      refine mj_T.eq (loc2 := [some (.ref 1), some (.int (jn w)), some (.int (jn (a : Int))), some (.int (jn ((b + 1 : Nat) : Int)))]) ?_ rfl (by rw [show ((b + 1 : Nat) : Int) = (b : Int) + 1 by omega]; rfl) rfl rfl
      refine mj_T.pl rfl rfl rfl rfl ?_
      exact ih (b + 1) (by omega) w h1 s1
    refine mj_T.if0 (a := y) rfl ⟨by omega, by omega⟩ (fun _ => t63 w) (fun _ => ?_)
    refine mj_T.iinc (a := w) rfl rfl ?_
    exact t63 (w + 1)
theorem er_outer (A : AS N u H) {Q : mj_R → Prop} (hend : ∀ (w : Int) (l2 l3 : Option Value) (h : mj_H), cS g n N u H h → mj_T 59 mj_m148 75 [some (.ref 1), some (.int (jn w)), l2, l3] [] h Q) : ∀ (k a : Nat), a + k = 6 → ∀ (w : Int) (l3 : Option Value) (h : mj_H), cS g n N u H h → mj_T 59 mj_m148 4 [some (.ref 1), some (.int (jn w)), some (.int (jn (a : Int))), l3] [] h Q := by
  intro k
  induction k with
  | zero =>
    intro a ha w l3 h s
    obtain ⟨V, X, m, b0, d, c⟩ := id s
    iterate 2 refine mj_T.pl rfl rfl rfl rfl ?_
    refine mT_get m 19 cq_d1 (by decide) rfl rfl ?_
    refine mT_get m 10 cq_d2 (by decide) rfl rfl ?_
    refine mE_len m rfl ?_
    refine mj_T.icmp (a := (a : Int)) (b := 6) rfl ⟨by omega, by omega⟩ ⟨by decide, by decide⟩ (fun _ => hend w _ _ h s) (fun q => ?_)
    simp only [jc, Bool.not_eq_true', Bool.not_eq_false', decide_eq_true_eq, decide_eq_false_iff_not] at q
    omega
  | succ k ih =>
    intro a ha w l3 h s
    obtain ⟨V, X, m, b0, d, c⟩ := id s
    iterate 2 refine mj_T.pl rfl rfl rfl rfl ?_
    refine mT_get m 19 cq_d1 (by decide) rfl rfl ?_
    refine mT_get m 10 cq_d2 (by decide) rfl rfl ?_
    refine mE_len m rfl ?_
    refine mj_T.icmp (a := (a : Int)) (b := 6) rfl ⟨by omega, by omega⟩ ⟨by decide, by decide⟩ (fun q => ?_) (fun _ => ?_)
    · simp only [jc, Bool.not_eq_true', Bool.not_eq_false', decide_eq_true_eq, decide_eq_false_iff_not] at q
      omega
    iterate 2 refine mj_T.pl rfl rfl rfl rfl ?_
    refine mj_T.iadd (a := (a : Int)) (b := 1) rfl ?_
    rw [show (a : Int) + 1 = ((a + 1 : Nat) : Int) by omega]
    refine mj_T.pl (loc' := [some (.ref 1), some (.int (jn w)), some (.int (jn (a : Int))), some (.int (jn ((a + 1 : Nat) : Int)))]) rfl rfl rfl rfl ?_
    refine er_inner A (by omega) (fun w l3 h1 s1 => ?_) (5 - a) (a + 1) (by omega) w h s
    refine mj_T.iinc (a := (a : Int)) rfl rfl ?_
    refine mj_T.eq (loc2 := [some (.ref 1), some (.int (jn w)), some (.int (jn ((a + 1 : Nat) : Int))), l3]) ?_ rfl (by rw [show ((a + 1 : Nat) : Int) = (a : Int) + 1 by omega]; rfl) rfl rfl
    refine mj_T.pl rfl rfl rfl rfl ?_
    exact ih (a + 1) (by omega) w l3 h1 s1
theorem er_texts (A : AS N u H) : ∀ (k a : Nat), a + k = 6 → ∀ (w : Int) (l3 : Option Value) (h : mj_H), cS g n N u H h → mj_T 59 mj_m148 77 [some (.ref 1), some (.int (jn w)), some (.int (jn (a : Int))), l3] [] h (fun z => ∃ (w : Int) (h2 : mj_H), cS g n N u H h2 ∧ z = (.inl (some (.int (jn w))), h2)) := by
  intro k
  induction k with
  | zero =>
    intro a ha w l3 h s
    obtain ⟨V, X, m, b0, d, c⟩ := id s
    iterate 2 refine mj_T.pl rfl rfl rfl rfl ?_
    refine mT_get m 19 cq_d1 (by decide) rfl rfl ?_
    refine mT_get m 10 cq_d2 (by decide) rfl rfl ?_
    refine mE_len m rfl ?_
    refine mj_T.icmp (a := (a : Int)) (b := 6) rfl ⟨by omega, by omega⟩ ⟨by decide, by decide⟩ (fun _ => ?_) (fun q => ?_)
    · refine mj_T.pl rfl rfl rfl rfl ?_
      exact mj_T.ret rfl rfl rfl ⟨w, h, s, rfl⟩
    simp only [jc, Bool.not_eq_true', Bool.not_eq_false', decide_eq_true_eq, decide_eq_false_iff_not] at q
    omega
  | succ k ih =>
    intro a ha w l3 h s
    obtain ⟨V, X, m, b0, d, c, jx⟩ := s.nr A
    have jx : rjR X := jx
    iterate 2 refine mj_T.pl rfl rfl rfl rfl ?_
    refine mT_get m 19 cq_d1 (by decide) rfl rfl ?_
    refine mT_get m 10 cq_d2 (by decide) rfl rfl ?_
    refine mE_len m rfl ?_
    refine mj_T.icmp (a := (a : Int)) (b := 6) rfl ⟨by omega, by omega⟩ ⟨by decide, by decide⟩ (fun q => ?_) (fun _ => ?_)
    · simp only [jc, Bool.not_eq_true', Bool.not_eq_false', decide_eq_true_eq, decide_eq_false_iff_not] at q
      omega
    refine mj_T.pl rfl rfl rfl rfl ?_
    refine mT_get m 19 cq_d1 (by decide) rfl rfl ?_
    refine mj_T.pl rfl rfl rfl rfl ?_
    refine mT_get m 19 cq_d1 (by decide) rfl rfl ?_
    refine mT_get m 10 cq_d2 (by decide) rfl rfl ?_
    refine mj_T.pl rfl rfl rfl rfl ?_
    refine mE_rows m (i := a) (by omega) rfl ?_
    refine mj_T.call rfl rfl (Nat.le_of_ble_eq_true rfl) (Nat.le_of_ble_eq_true rfl) (mV_of m 17 cq_d17 (by decide) rfl (by decide) rfl _) rfl (mj_Ok.up (by decide) (mZ_82 (D := 0) m isT_17 (mK_rt a (by omega)) (jx _ (mK_rt a (by omega))))) (fun v h2 hq => ?_) (fun i h2 hq => by obtain ⟨_, _, _, _, _, hq⟩ := hq; cases hq)
    obtain ⟨X2, _, m2, x2, e2, hq⟩ := hq
    cases hq
    have c2 : CR X2 N u H := c.txt (fun c c1 c2 c3 c4 => e2 c c3 c4) ⟨by
      rw [e2 15 (by decide) (by decide)]
      exact c.tl.1, x2⟩
    have d2 : DG X2 := d.of (fun p kp => e2 p (by have := cK_13 kp; omega) (by have := cK_13 kp; omega))
    have hBt := m2.text (Or.inr rfl) x2
    refine mj_T.pl rfl rfl rfl rfl ?_
    refine mT_get m2 19 cq_d1 (by decide) rfl rfl ?_
    refine mj_T.pl rfl rfl rfl rfl ?_
    refine mT_get m2 19 cq_d1 (by decide) rfl rfl ?_
    refine mj_T.call rfl rfl (Nat.le_of_ble_eq_true rfl) (Nat.le_of_ble_eq_true rfl) (mV_of m2 14 cq_d455 (by decide) rfl (by decide) rfl _) rfl (mj_Ok.up (by decide) (rt_accepts m2 b0 d2 (Or.inr (Or.inr rfl)) hBt (by omega) (fun j _ => i255 _))) (fun v h3 hq => ?_) (fun i h3 hq => by obtain ⟨_, _, _, _, _, _, _, _, hq⟩ := hq; cases hq)
    obtain ⟨p, h3', Y3, t3, Z3, hjE, ⟨V3, X3, m3, ⟨b3, d3, sb3⟩, ⟨x1, x2', x3, x4⟩, yr⟩, hU, hq⟩ := hq
    have hh : h3 = h3' := congrArg Prod.snd hq
    subst hh
    have c1 : CR (rX1t X2 17 (X2 17 1).toNat) N u H := by
      have o : ∀ a, a ≠ 455 → a ≠ 17 → rX1t X2 17 (X2 17 1).toNat a = X2 a := fun a h1 h2 => rX1t_o X2 17 _ h1 h2
      refine CR.of17 (by rw [o 1 (by decide) (by decide)]) (by rw [o 1 (by decide) (by decide)]) (fun a ha => o a (by omega) (by omega)) ⟨by rw [o 15 (by decide) (by decide)]; exact c2.tl.1, ?_⟩ c2
      show 0 ≤ ((X2 17 1).toNat : Int) ∧ ((X2 17 1).toNat : Int) ≤ 340
      omega
    have c3 := c1.sb sb3
    have s3 : cS g n N u H h3 := ⟨V3, X3, m3, b3, d3, c3⟩
    obtain ⟨E, hE⟩ : ∃ E, rdErr (fun j => (jn (X2 (17 + 1) j) &&& Int32.ofInt 255).toInt) (X2 17 1).toNat = E := ⟨_, rfl⟩
    rw [hE] at hjE hU x3 hq
    have t154 : ∀ w : Int, mj_T 59 mj_m148 154 [some (.ref 1), some (.int (jn w)), some (.int (jn (a : Int))), l3] [] h3 (fun z => ∃ (w : Int) (h2 : mj_H), cS g n N u H h2 ∧ z = (.inl (some (.int (jn w))), h2)) := fun w => by
      refine mj_T.iinc (a := (a : Int)) rfl rfl ?_
      refine mj_T.eq (loc2 := [some (.ref 1), some (.int (jn w)), some (.int (jn ((a + 1 : Nat) : Int))), l3]) ?_ rfl (by rw [show ((a + 1 : Nat) : Int) = (a : Int) + 1 by omega]; rfl) rfl rfl
      refine mj_T.pl rfl rfl rfl rfl ?_
      exact ih (a + 1) (by omega) w l3 h3 s3
    have t151 : mj_T 59 mj_m148 151 [some (.ref 1), some (.int (jn w)), some (.int (jn (a : Int))), l3] [] h3 (fun z => ∃ (w : Int) (h2 : mj_H), cS g n N u H h2 ∧ z = (.inl (some (.int (jn w))), h2)) := by
      refine mj_T.iinc (a := w) rfl rfl ?_
      exact t154 (w + 1)
    by_cases hE1 : E = -1
    rotate_left
    · rw [if_neg hE1] at hq
      cases hq
      refine mj_T.if0 (a := 0) rfl ⟨by decide, by decide⟩ (fun _ => t151) (fun q => by simp [jc] at q)
    rw [if_pos hE1] at hq
    cases hq
    refine mj_T.if0 (a := 1) rfl ⟨by decide, by decide⟩ (fun q => by simp [jc] at q) (fun _ => ?_)
    obtain ⟨z457, hu⟩ := hU hE1
    have k457 := (yr 457 z457).2
    have ht3 := hu.t
    refine mj_T.pl rfl rfl rfl rfl ?_
    refine mT_get m3 19 cq_d1 (by decide) rfl rfl ?_
    refine mT_get (v := .int (jn t3)) m3 14 cq_d455 (by decide) rfl (by rw [← x4]; rfl) ?_
    refine mj_T.if0 (a := t3) rfl ⟨by omega, by omega⟩ (fun _ => t151) (fun _ => ?_)
    refine mj_T.pl rfl rfl rfl rfl ?_
    refine mT_get m3 19 cq_d1 (by decide) rfl rfl ?_
    have kans : mj_Ok 1 47 [.ref 455] h3 (fun z => z = (.inl (some (.ref 457)), h3)) := by
      refine mj_Ok.of (M := mj_m47) (loc := [some (.ref 455)]) rfl rfl rfl ?_
      refine mj_T.pl rfl rfl rfl rfl ?_
      refine mT_get m3 14 cq_d455 (by decide) rfl rfl ?_
      refine mj_T.pl rfl rfl rfl rfl ?_
      refine mT_aald (i := 0) m3 6 cq_456.1 (by decide) rfl rfl (by decide) ⟨by decide, by rw [cq_456.2.1]; decide⟩ ?_
      exact mj_T.ret rfl rfl rfl rfl
    refine mj_T.call rfl rfl (Nat.le_of_ble_eq_true rfl) (Nat.le_of_ble_eq_true rfl) (mV_of m3 14 cq_d455 (by decide) rfl (by decide) rfl _) rfl (mj_Ok.up (by decide) kans) (fun v h4 hq => ?_) (fun i h4 hq => by cases hq)
    cases hq
    refine mj_T.eq (pc2 := 136) (st2 := [.ref 457]) ?_ rfl rfl rfl rfl
    refine mj_T.pl rfl rfl rfl rfl ?_
    refine mT_get m3 19 cq_d1 (by decide) rfl rfl ?_
    refine mT_get m3 10 cq_d2 (by decide) rfl rfl ?_
    refine mj_T.pl rfl rfl rfl rfl ?_
    refine mE_rows m3 (i := a) (by omega) rfl ?_
    have sa := c3.sm A.1 (a := (a : Int)) ⟨by omega, by omega⟩
    rw [Int.toNat_natCast] at sa
    have s457 : sml (X3 457) := sml_cg (fun j hj => (k457.2 j hj).symm) k457.1
    refine mj_T.call rfl rfl (Nat.le_of_ble_eq_true rfl) (Nat.le_of_ble_eq_true rfl) rfl rfl (mj_Ok.up (by decide) (mS_same (D := 0) m3 (isRw.k (Or.inl ⟨by decide, by decide⟩)) (mK_rt a (by omega)) s457 sa)) (fun v h5 hq => ?_) (fun i h5 hq => by rcases hq with ⟨_, hq⟩ | ⟨_, hq⟩ <;> cases hq)
    rcases hq with ⟨_, hq⟩ | ⟨_, hq⟩
    · cases hq
      refine mj_T.eq (pc2 := 148) (st2 := [.int (jn 1)]) ?_ rfl rfl rfl rfl
      exact mj_T.if0 (a := 1) rfl ⟨by decide, by decide⟩ (fun _ => t154 w) (fun q => by simp [jc] at q)
    · cases hq
      refine mj_T.eq (pc2 := 148) (st2 := [.int (jn 0)]) ?_ rfl rfl rfl rfl
      exact mj_T.if0 (a := 0) rfl ⟨by decide, by decide⟩ (fun q => by simp [jc] at q) (fun _ => t151)
theorem pX_errors (A : AS N u H) (s : cS g n N u H h) : mj_Ok 60 148 [.ref 1] h (fun z => ∃ (w : Int) (h2 : mj_H), cS g n N u H h2 ∧ z = (.inl (some (.int (jn w))), h2)) := by
  refine mj_Ok.of (M := mj_m148) (loc := [some (.ref 1), none, none, none]) rfl rfl rfl ?_
  iterate 4 refine mj_T.pl rfl rfl rfl rfl ?_
  refine er_outer A (fun w l2 l3 h1 s1 => ?_) 6 0 (by decide) 0 none h s
  iterate 2 refine mj_T.pl rfl rfl rfl rfl ?_
  exact er_texts A 6 0 (by decide) w l3 h1 s1
/-- clearText -/
theorem pX_clearText (s : cS g n N u H h) : mj_Ok 1 142 [.ref 1] h (fun z => ∃ (w : Int) (h2 : mj_H), cS g n N u H h2 ∧ z = (.inl (some (.int (jn w))), h2)) := by
  obtain ⟨V, X, m, b0, d, c⟩ := s
  refine mj_Ok.of (M := mj_m142) (loc := [some (.ref 1), none]) rfl rfl rfl ?_
  refine mj_T.pl rfl rfl rfl rfl ?_
  refine mT_get m 19 cq_d1 (by decide) rfl rfl ?_
  refine mT_get (v := .int (jn (X 13 1))) m 27 cq_d13 (by decide) rfl rfl ?_
  iterate 2 refine mj_T.pl rfl rfl rfl rfl ?_
  refine mT_get m 19 cq_d1 (by decide) rfl rfl ?_
  refine mj_T.pl rfl rfl rfl rfl ?_
  refine mT_put (v := 0) m 27 cq_d13 (by decide) rfl (by simp [jMf, xup]) (by simp [jMf]) rfl (fun h3 m3 => ?_)
  refine mj_T.pl rfl rfl rfl rfl ?_
  have eo : ∀ a, a ≠ 13 → xup X 13 1 0 a = X a := fun a h2 => funext fun j => xup_ne _ _ (Or.inl h2)
  exact mj_T.ret rfl rfl rfl ⟨X 13 1, h3, ⟨V, _, m3, b0, d.of (fun a ka => eo a (fun q => by rw [q, cq_d13] at ka; omega)), CR.of (by rw [eo 1 (by decide)]) (by rw [eo 1 (by decide)]) (fun a ha => eo a (by omega)) c⟩, rfl⟩
end MER
section MAP
variable {D tm : Nat} {T : Nat → Int} {h : mj_H}
theorem rq_append2 {mf : List Value} {x1 x2 x3 x4 x5 : Int32} (hm : h[1]? = some (.inr (9, mf))) (hm4 : mf[4]? = some (.ref 13)) (b : jBuf tm T h) (ht : tm ≤ 200) : mj_Ok (D + 3) 141 [.ref 1, .int x1, .int x2, .int x3, .int x4, .int x5] h (fun r => (200 < tm + jcn x1 x2 x3 x4 x5 20 ∧ r.2 = h ++ [xE]) ∨ (tm + jcn x1 x2 x3 x4 x5 20 ≤ 200 ∧ jBuf (tm + jcn x1 x2 x3 x4 x5 20) (apT x1 x2 x3 x4 x5 tm T 20) r.2 ∧ jBf h r.2)) := by
  rw [jcn_20]
  have n1 := mq_nby_le x1
  have n2 := mq_nby_le x2
  have n3 := mq_nby_le x3
  have n4 := mq_nby_le x4
  have n5 := mq_nby_le x5
  refine mj_Ok.of (M := mj_m141) (loc := [some (.ref 1), some (.int x1), some (.int x2), some (.int x3), some (.int x4), some (.int x5), none]) rfl rfl rfl ?_
  refine mj_T.pl rfl rfl rfl rfl ?_
  refine mj_T.call rfl rfl (Nat.le_of_ble_eq_true rfl) (Nat.le_of_ble_eq_true rfl) rfl rfl (mj_Ok.up (by omega) (jb_in (D := D) (x := x1))) (fun v h' hq => ?_) (fun i h' hq => by cases hq)
  cases hq
  refine mj_T.pl rfl rfl rfl rfl ?_
  refine mj_T.call rfl rfl (Nat.le_of_ble_eq_true rfl) (Nat.le_of_ble_eq_true rfl) rfl rfl (mj_Ok.up (by omega) (jb_in (D := D) (x := x2))) (fun v h' hq => ?_) (fun i h' hq => by cases hq)
  cases hq
  refine mj_T.eq (st2 := [.int (jn (mq_nby x2 : Int)), .int (jn ((mq_nby x1 : Int) : Int))]) ?_ rfl rfl rfl rfl
  refine mj_T.iadd rfl ?_
  refine mj_T.pl rfl rfl rfl rfl ?_
  refine mj_T.call rfl rfl (Nat.le_of_ble_eq_true rfl) (Nat.le_of_ble_eq_true rfl) rfl rfl (mj_Ok.up (by omega) (jb_in (D := D) (x := x3))) (fun v h' hq => ?_) (fun i h' hq => by cases hq)
  cases hq
  refine mj_T.eq (st2 := [.int (jn (mq_nby x3 : Int)), .int (jn ((((mq_nby x1 : Int) : Int) + (mq_nby x2 : Int)) : Int))]) ?_ rfl rfl rfl rfl
  refine mj_T.iadd rfl ?_
  refine mj_T.pl rfl rfl rfl rfl ?_
  refine mj_T.call rfl rfl (Nat.le_of_ble_eq_true rfl) (Nat.le_of_ble_eq_true rfl) rfl rfl (mj_Ok.up (by omega) (jb_in (D := D) (x := x4))) (fun v h' hq => ?_) (fun i h' hq => by cases hq)
  cases hq
  refine mj_T.eq (st2 := [.int (jn (mq_nby x4 : Int)), .int (jn ((((((mq_nby x1 : Int) : Int) + (mq_nby x2 : Int)) : Int) + (mq_nby x3 : Int)) : Int))]) ?_ rfl rfl rfl rfl
  refine mj_T.iadd rfl ?_
  refine mj_T.pl rfl rfl rfl rfl ?_
  refine mj_T.call rfl rfl (Nat.le_of_ble_eq_true rfl) (Nat.le_of_ble_eq_true rfl) rfl rfl (mj_Ok.up (by omega) (jb_in (D := D) (x := x5))) (fun v h' hq => ?_) (fun i h' hq => by cases hq)
  cases hq
  refine mj_T.eq (st2 := [.int (jn (mq_nby x5 : Int)), .int (jn ((((((((mq_nby x1 : Int) : Int) + (mq_nby x2 : Int)) : Int) + (mq_nby x3 : Int)) : Int) + (mq_nby x4 : Int)) : Int))]) ?_ rfl rfl rfl rfl
  refine mj_T.iadd rfl ?_
  have ea : (((((((((mq_nby x1 : Int) : Int) + (mq_nby x2 : Int)) : Int) + (mq_nby x3 : Int)) : Int) + (mq_nby x4 : Int)) : Int) + (mq_nby x5 : Int)) = ((mq_nby x1 + mq_nby x2 + mq_nby x3 + mq_nby x4 + mq_nby x5 : Nat) : Int) := by omega
  rw [ea]
  have pall := pb_all x1 x2 x3 x4 x5 tm T
  rw [jcn_20] at pall
  generalize eN : mq_nby x1 + mq_nby x2 + mq_nby x3 + mq_nby x4 + mq_nby x5 = N at pall
  refine mj_T.pl (loc' := [some (.ref 1), some (.int x1), some (.int x2), some (.int x3), some (.int x4), some (.int x5), some (.int (jn (N : Int)))]) rfl rfl rfl rfl ?_
  refine mj_T.pl rfl rfl rfl rfl ?_
  refine mj_T.gfl rfl hm hm4 ?_
  refine mj_T.gfl rfl b.1 rfl ?_
  refine mj_T.pl rfl rfl rfl rfl ?_
  refine mj_T.iadd rfl ?_
  refine mj_T.pl rfl rfl rfl rfl ?_
  refine mj_T.icmp (a := (tm : Int) + (N : Int)) (b := 200) rfl ⟨by omega, by omega⟩ ⟨by decide, by decide⟩ (fun c => ?_) (fun c => ?_)
  rotate_left
  · have c := of_decide_eq_false c
    exact mj_T.throws rfl rfl rfl (Nat.le_of_ble_eq_true rfl) (Or.inl ⟨by omega, rfl⟩)
  have c := of_decide_eq_true c
  have hp : ((pb4 x5 (pb4 x4 (pb4 x3 (pb4 x2 (pb4 x1 (tm, T)))))) ).1 ≤ 200 := by rw [pall]; show tm + N ≤ 200; omega
  have p4 := Nat.le_trans (pb4_le x5 _) hp
  have p3 := Nat.le_trans (pb4_le x4 _) p4
  have p2 := Nat.le_trans (pb4_le x3 _) p3
  have p1 := Nat.le_trans (pb4_le x2 _) p2
  have mm : ∀ {g : mj_H}, jBf h g → g[1]? = some (.inr (9, mf)) := fun f => by rw [f.2 1 (by decide) (by decide)]; exact hm
  refine mj_T.pl rfl rfl rfl rfl ?_
  refine mj_T.gfl rfl hm hm4 ?_
  refine mj_T.pl rfl rfl rfl rfl ?_
  refine mj_T.call rfl rfl (Nat.le_of_ble_eq_true rfl) (Nat.le_of_ble_eq_true rfl) (by simp [mj_recv, b.1]) rfl (rq_putBytes (D := D) (x := x1) (p := (tm, T)) b p1) (fun v h' hq => ?_) (fun i h' hq => by obtain ⟨_, hq, _⟩ := hq; cases hq)
  obtain ⟨h1, hq, o1, f1⟩ := hq
  cases hq
  refine mj_T.pl rfl rfl rfl rfl ?_
  refine mj_T.gfl rfl (mm f1) hm4 ?_
  refine mj_T.pl rfl rfl rfl rfl ?_
  refine mj_T.call rfl rfl (Nat.le_of_ble_eq_true rfl) (Nat.le_of_ble_eq_true rfl) (by simp [mj_recv, o1.1]) rfl (rq_putBytes (D := D) (x := x2) o1 p2) (fun v h' hq => ?_) (fun i h' hq => by obtain ⟨_, hq, _⟩ := hq; cases hq)
  obtain ⟨h2, hq, o2, f2⟩ := hq
  cases hq
  refine mj_T.pl rfl rfl rfl rfl ?_
  refine mj_T.gfl rfl (mm (f1.tr f2)) hm4 ?_
  refine mj_T.pl rfl rfl rfl rfl ?_
  refine mj_T.call rfl rfl (Nat.le_of_ble_eq_true rfl) (Nat.le_of_ble_eq_true rfl) (by simp [mj_recv, o2.1]) rfl (rq_putBytes (D := D) (x := x3) o2 p3) (fun v h' hq => ?_) (fun i h' hq => by obtain ⟨_, hq, _⟩ := hq; cases hq)
  obtain ⟨h3, hq, o3, f3⟩ := hq
  cases hq
  refine mj_T.pl rfl rfl rfl rfl ?_
  refine mj_T.gfl rfl (mm ((f1.tr f2).tr f3)) hm4 ?_
  refine mj_T.pl rfl rfl rfl rfl ?_
  refine mj_T.call rfl rfl (Nat.le_of_ble_eq_true rfl) (Nat.le_of_ble_eq_true rfl) (by simp [mj_recv, o3.1]) rfl (rq_putBytes (D := D) (x := x4) o3 p4) (fun v h' hq => ?_) (fun i h' hq => by obtain ⟨_, hq, _⟩ := hq; cases hq)
  obtain ⟨h4, hq, o4, f4⟩ := hq
  cases hq
  refine mj_T.pl rfl rfl rfl rfl ?_
  refine mj_T.gfl rfl (mm (((f1.tr f2).tr f3).tr f4)) hm4 ?_
  refine mj_T.pl rfl rfl rfl rfl ?_
  refine mj_T.call rfl rfl (Nat.le_of_ble_eq_true rfl) (Nat.le_of_ble_eq_true rfl) (by simp [mj_recv, o4.1]) rfl (rq_putBytes (D := D) (x := x5) o4 hp) (fun v h' hq => ?_) (fun i h' hq => by obtain ⟨_, hq, _⟩ := hq; cases hq)
  obtain ⟨h5, hq, o5, f5⟩ := hq
  cases hq
  have f6 := (((f1.tr f2).tr f3).tr f4).tr f5
  refine mj_T.pl rfl rfl rfl rfl ?_
  refine mj_T.gfl rfl (mm f6) hm4 ?_
  refine mj_T.gfl rfl o5.1 rfl ?_
  refine mj_T.ret rfl rfl rfl (Or.inr ⟨by omega, ?_, f6⟩)
  rw [pall] at o5
  exact o5
end MAP
section MAQ
variable {h h' : mj_H} {n u : Nat} {N : Nat → Int} {H : Nat → Nat → Int}
/-- only the buffer is another -/
theorem cC.buf {x : Int} {f : Nat → Value} (s : cC N u H h) (hf : ∀ a : Nat, a ≠ 13 → a ≠ 14 → h'[a]? = h[a]?) (h13 : h'[13]? = some (.inr (7, [.ref 14, .int (jn x)]))) (h14 : h'[14]? = some (.inl (2, 200, f))) (hi : ∀ i, ∃ y : Int, f i = .int (jn y)) : cC N u H h' := by
  obtain ⟨V, X, m, b0, d, c⟩ := s
  have fv : ∀ j, f j = .int (jn (hi j).choose) := fun j => (hi j).choose_spec
  let X2 : Nat → Nat → Int := fun a j => if a = 13 then x else if a = 14 then (hi j).choose else X a j
  have eo : ∀ a, a ≠ 13 → a ≠ 14 → X2 a = X a := fun a h1 h2 => funext fun j => by
    show (if a = 13 then x else if a = 14 then (hi j).choose else X a j) = X a j
    rw [if_neg h1, if_neg h2]
  refine ⟨V, X2, ⟨rfl, fun a ha => ⟨fun _ => rfl, fun h1 h2 => absurd h1 (by omega)⟩, fun a => ?_⟩, b0, d.of (fun p kp => eo p (fun q => by rw [q, cq_d13] at kp; omega) (fun q => by rw [q, cq_456.2.2.2.2.2.2.2.2] at kp; omega)), CR.of (by rw [eo 1 (by decide) (by decide)]) (by rw [eo 1 (by decide) (by decide)]) (fun a ha => eo a (by omega) (by omega)) c⟩
  by_cases c1 : a = 13
  · subst c1
    unfold jMk
    rw [cq_d13, if_neg (by decide), if_neg (by decide), if_neg (by decide), if_neg (by decide), if_neg (by decide), if_neg (by decide), if_neg (by decide), h13]
    rfl
  by_cases c2 : a = 14
  · subst c2
    unfold jMk
    rw [cq_456.2.2.2.2.2.2.2.2, if_neg (by decide), if_neg (by decide), if_neg (by decide), if_neg (by decide), if_neg (by decide), if_pos rfl, h14, cq_456.2.2.2.2.2.2.1]
    refine congrArg (fun z : Nat → Value => (some (.inl (2, 200, z)) : Option mj_E)) (funext fun j => ?_)
    rw [fv j]
    show _ = Value.int (jn (if (14 : Nat) = 13 then x else if (14 : Nat) = 14 then (hi j).choose else X 14 j))
    rw [if_neg (by decide), if_pos rfl]
  · have m1 := m.2.2 a
    have e1 := hf a c1 c2
    have k13 := cq_d13
    have k14 := cq_456.2.2.2.2.2.2.2.2
    unfold jMk at m1 ⊢
    by_cases k0 : cK a = 0
    · rw [if_pos k0]
      trivial
    rw [if_neg k0] at m1 ⊢
    by_cases k18 : cK a = 18
    · rw [if_pos k18] at m1 ⊢
      have w := (mK_w (Or.inl k18)).1
      have e2 := hf (a + 1) (fun q => by rw [q] at w; omega) (fun q => by rw [q] at w; omega)
      unfold wX wT wW at m1 ⊢
      rw [e1, e2]
      exact m1
    rw [if_neg k18] at m1 ⊢
    by_cases k12 : cK a = 12
    · rw [if_pos k12] at m1 ⊢
      have w := (mK_w (Or.inr k12)).1
      have e2 := hf (a + 1) (fun q => by rw [q] at w; omega) (fun q => by rw [q] at w; omega)
      unfold dX dT wD at m1 ⊢
      rw [e1, e2]
      exact m1
    rw [if_neg k12] at m1 ⊢
    have ef : ∀ k, jMf X2 k a = jMf X k a := fun k => by
      unfold jMf
      rw [eo a c1 c2]
    rw [e1, eo a c1 c2, ef]
    exact m1
theorem jO.ints {g : mj_H} {tm : Int} {f : Nat → Value} {L : Nat} (o : jO cK cL cR g n tm h) (h14 : h[14]? = some (.inl (2, L, f))) : ∀ i, ∃ y : Int, f i = .int (jn y) := by
  obtain ⟨e, e1, e2⟩ := o.2.2.2 14 (by rw [cq_456.2.2.2.2.2.2.2.2]; decide)
  rw [h14] at e1
  cases e1
  rw [cq_456.2.2.2.2.2.2.2.2] at e2
  unfold jCf at e2
  rw [if_pos (by decide)] at e2
  obtain ⟨f2, q, hb⟩ := e2
  injection q with q
  have q3 := (Prod.mk.inj (Prod.mk.inj q).2).2
  intro i
  have y := hb i
  rw [if_pos (Or.inr rfl)] at y
  obtain ⟨x, _, y2⟩ := y
  rw [q3]
  exact ⟨x, y2⟩
theorem cz_141 {g : mj_H} {tm : Nat} {T : Nat → Int} {x1 x2 x3 x4 x5 : Int32} (s : cC N u H h) (o : jO cK cL cR g n (tm : Int) h) (hg : g.length ≤ n) (b : jBuf tm T h) (ht : tm ≤ 200) : mj_Ok 59 141 [.ref 1, .int x1, .int x2, .int x3, .int x4, .int x5] h (fun r => yZ (sameQ N u H) r.2) := by
  obtain ⟨mf, m1, m2, m4, _⟩ := o.main
  refine (((mj_Ok.up (by decide) (jc_141 (D := 0) cTY hg o ck0.2)).and (mj_Ok.up (by decide) (rq_append2 (D := 0) m1 m4 b ht)))).to (fun r hr => ?_)
  obtain ⟨a1, a2⟩ := hr
  rcases a2 with ⟨_, e⟩ | ⟨hl, b2, f2⟩
  · refine ⟨N, u, H, ⟨rfl, rfl, rfl⟩, ?_⟩
    rw [e]
    obtain ⟨V, X, m, b0, d, c⟩ := s
    exact (cS.thr (Nat.le_refl _) m b0 d c).cC
  · rcases a1 with ⟨a1, _⟩ | ⟨_, _, o2⟩
    · omega
    · obtain ⟨b13, f, b14, _⟩ := b2
      exact ⟨N, u, H, ⟨rfl, rfl, rfl⟩, s.buf f2.2 b13 b14 (o2.ints b14)⟩
end MAQ
/-! The law's small methods: the class behind them. -/
theorem yZ.set {P : SP} {h1 : mj_H} {e : mj_E} (y : yZ P h1) : yZ P (h1.set 571 e) := y.fr (fun a ha => List.getElem?_set_ne (fun q => ha (by rw [← q]; exact cK_out (by decide))))
section JYL
variable {n : Nat} {tm : Int} {h : mj_H} {Φ : SP}
theorem jy_310 {p1 : Int} {p2 : Int} {p3 : Int} (w : jLw cK cL cR 571 n tm h) (rp1 : -2147483648 ≤ p1 ∧ p1 ≤ 2147483647) (rp2 : -2147483648 ≤ p2 ∧ p2 ≤ 2147483647) (rp3 : -2147483648 ≤ p3 ∧ p3 ≤ 2147483647) (c : mj_Ok 59 102 [.ref 1, .int (jn p1), .int (jn p2), .int (jn p3)] h (fun r => yZ Φ r.2)) : mj_Ok 60 310 [.ref 1, .int (jn p1), .int (jn p2), .int (jn p3), .ref 571] h (fun r => yZ Φ r.2) := by
  have hg : h.length ≤ n := Nat.le_of_eq w.1.1
  refine mj_Ok.of (M := mj_m310) (loc := [some (.ref 1), some (.int (jn p1)), some (.int (jn p2)), some (.int (jn p3)), some (.ref 571), none]) rfl rfl rfl ?_
  iterate 6 refine mj_T.pl rfl rfl rfl rfl ?_
  refine mj_T.call rfl rfl (Nat.le_of_ble_eq_true rfl) (Nat.le_of_ble_eq_true rfl) (jrv_of w.1 cK4.1 (by decide) rfl (by decide) rfl _) rfl ((mj_Ok.up (by decide) (jc_102 (D := 0) cTY hg w.1 cK4.1 rp1 rp2 rp3)).and c) (fun v h1 hq => ?_) (fun i h1 hq => ?_)
  · obtain ⟨⟨hv, o1⟩, y1⟩ := hq
    obtain ⟨z, _, _, rfl⟩ := hv
    obtain ⟨_, _, f, hf⟩ := w.thr o1
    refine mj_T.step rfl rfl rfl ?_
    refine jcx.last hf rfl (fun e => ?_)
    iterate 2 refine mj_T.pl rfl rfl rfl rfl ?_
    exact mj_T.ret rfl rfl rfl (yZ.set y1)
  · obtain ⟨⟨hi, o1⟩, y1⟩ := hq
    simp only [List.mem_cons, List.not_mem_nil, or_false] at hi
    rcases hi with hi | hi
    · subst hi
      refine Or.inr ⟨5, 17, rfl, (Nat.le_of_ble_eq_true rfl), ?_⟩
      refine mj_T.pl rfl rfl rfl rfl ?_
      exact mj_T.ret rfl rfl rfl y1
    · subst hi
      refine Or.inr ⟨5, 21, rfl, (Nat.le_of_ble_eq_true rfl), ?_⟩
      refine mj_T.pl rfl rfl rfl rfl ?_
      exact mj_T.ret rfl rfl rfl y1
theorem jy_311 {p1 : Int} {p2 : Int} {p3 : Int} (w : jLw cK cL cR 571 n tm h) (rp1 : -2147483648 ≤ p1 ∧ p1 ≤ 2147483647) (rp2 : -2147483648 ≤ p2 ∧ p2 ≤ 2147483647) (rp3 : -2147483648 ≤ p3 ∧ p3 ≤ 2147483647) (c : mj_Ok 59 103 [.ref 1, .int (jn p1), .int (jn p2), .int (jn p3)] h (fun r => yZ Φ r.2)) : mj_Ok 60 311 [.ref 1, .int (jn p1), .int (jn p2), .int (jn p3), .ref 571] h (fun r => yZ Φ r.2) := by
  have hg : h.length ≤ n := Nat.le_of_eq w.1.1
  refine mj_Ok.of (M := mj_m311) (loc := [some (.ref 1), some (.int (jn p1)), some (.int (jn p2)), some (.int (jn p3)), some (.ref 571), none]) rfl rfl rfl ?_
  iterate 6 refine mj_T.pl rfl rfl rfl rfl ?_
  refine mj_T.call rfl rfl (Nat.le_of_ble_eq_true rfl) (Nat.le_of_ble_eq_true rfl) (jrv_of w.1 cK4.1 (by decide) rfl (by decide) rfl _) rfl ((mj_Ok.up (by decide) (jc_103 (D := 0) cTY hg w.1 cK4.1 rp1 rp2 rp3)).and c) (fun v h1 hq => ?_) (fun i h1 hq => ?_)
  · obtain ⟨⟨hv, o1⟩, y1⟩ := hq
    obtain ⟨z, _, _, rfl⟩ := hv
    obtain ⟨_, _, f, hf⟩ := w.thr o1
    refine mj_T.step rfl rfl rfl ?_
    refine jcx.last hf rfl (fun e => ?_)
    iterate 2 refine mj_T.pl rfl rfl rfl rfl ?_
    exact mj_T.ret rfl rfl rfl (yZ.set y1)
  · obtain ⟨⟨hi, o1⟩, y1⟩ := hq
    simp only [List.mem_cons, List.not_mem_nil, or_false] at hi
    rcases hi with hi | hi
    · subst hi
      refine Or.inr ⟨5, 17, rfl, (Nat.le_of_ble_eq_true rfl), ?_⟩
      refine mj_T.pl rfl rfl rfl rfl ?_
      exact mj_T.ret rfl rfl rfl y1
    · subst hi
      refine Or.inr ⟨5, 21, rfl, (Nat.le_of_ble_eq_true rfl), ?_⟩
      refine mj_T.pl rfl rfl rfl rfl ?_
      exact mj_T.ret rfl rfl rfl y1
theorem jy_312 {p1 : Int} {p2 : Int} {p3 : Int} (w : jLw cK cL cR 571 n tm h) (rp1 : -2147483648 ≤ p1 ∧ p1 ≤ 2147483647) (rp2 : -2147483648 ≤ p2 ∧ p2 ≤ 2147483647) (rp3 : -2147483648 ≤ p3 ∧ p3 ≤ 2147483647) (c : mj_Ok 59 104 [.ref 1, .int (jn p1), .int (jn p2), .int (jn p3)] h (fun r => yZ Φ r.2)) : mj_Ok 60 312 [.ref 1, .int (jn p1), .int (jn p2), .int (jn p3), .ref 571] h (fun r => yZ Φ r.2) := by
  have hg : h.length ≤ n := Nat.le_of_eq w.1.1
  refine mj_Ok.of (M := mj_m312) (loc := [some (.ref 1), some (.int (jn p1)), some (.int (jn p2)), some (.int (jn p3)), some (.ref 571), none]) rfl rfl rfl ?_
  iterate 6 refine mj_T.pl rfl rfl rfl rfl ?_
  refine mj_T.call rfl rfl (Nat.le_of_ble_eq_true rfl) (Nat.le_of_ble_eq_true rfl) (jrv_of w.1 cK4.1 (by decide) rfl (by decide) rfl _) rfl ((mj_Ok.up (by decide) (jc_104 (D := 0) cTY hg w.1 cK4.1 rp1 rp2 rp3)).and c) (fun v h1 hq => ?_) (fun i h1 hq => ?_)
  · obtain ⟨⟨hv, o1⟩, y1⟩ := hq
    obtain ⟨z, _, _, rfl⟩ := hv
    obtain ⟨_, _, f, hf⟩ := w.thr o1
    refine mj_T.step rfl rfl rfl ?_
    refine jcx.last hf rfl (fun e => ?_)
    iterate 2 refine mj_T.pl rfl rfl rfl rfl ?_
    exact mj_T.ret rfl rfl rfl (yZ.set y1)
  · obtain ⟨⟨hi, o1⟩, y1⟩ := hq
    simp only [List.mem_cons, List.not_mem_nil, or_false] at hi
    rcases hi with hi | hi
    · subst hi
      refine Or.inr ⟨5, 17, rfl, (Nat.le_of_ble_eq_true rfl), ?_⟩
      refine mj_T.pl rfl rfl rfl rfl ?_
      exact mj_T.ret rfl rfl rfl y1
    · subst hi
      refine Or.inr ⟨5, 21, rfl, (Nat.le_of_ble_eq_true rfl), ?_⟩
      refine mj_T.pl rfl rfl rfl rfl ?_
      exact mj_T.ret rfl rfl rfl y1
theorem jy_313 {p1 : Int} {p2 : Int} {p3 : Int} (w : jLw cK cL cR 571 n tm h) (rp1 : -2147483648 ≤ p1 ∧ p1 ≤ 2147483647) (rp2 : -2147483648 ≤ p2 ∧ p2 ≤ 2147483647) (rp3 : -2147483648 ≤ p3 ∧ p3 ≤ 2147483647) (c : mj_Ok 59 105 [.ref 1, .int (jn p1), .int (jn p2), .int (jn p3)] h (fun r => yZ Φ r.2)) : mj_Ok 60 313 [.ref 1, .int (jn p1), .int (jn p2), .int (jn p3), .ref 571] h (fun r => yZ Φ r.2) := by
  have hg : h.length ≤ n := Nat.le_of_eq w.1.1
  refine mj_Ok.of (M := mj_m313) (loc := [some (.ref 1), some (.int (jn p1)), some (.int (jn p2)), some (.int (jn p3)), some (.ref 571), none]) rfl rfl rfl ?_
  iterate 6 refine mj_T.pl rfl rfl rfl rfl ?_
  refine mj_T.call rfl rfl (Nat.le_of_ble_eq_true rfl) (Nat.le_of_ble_eq_true rfl) (jrv_of w.1 cK4.1 (by decide) rfl (by decide) rfl _) rfl ((mj_Ok.up (by decide) (jc_105 (D := 0) cTY hg w.1 cK4.1 rp1 rp2 rp3)).and c) (fun v h1 hq => ?_) (fun i h1 hq => ?_)
  · obtain ⟨⟨hv, o1⟩, y1⟩ := hq
    obtain ⟨z, _, _, rfl⟩ := hv
    obtain ⟨_, _, f, hf⟩ := w.thr o1
    refine mj_T.step rfl rfl rfl ?_
    refine jcx.last hf rfl (fun e => ?_)
    iterate 2 refine mj_T.pl rfl rfl rfl rfl ?_
    exact mj_T.ret rfl rfl rfl (yZ.set y1)
  · obtain ⟨⟨hi, o1⟩, y1⟩ := hq
    simp only [List.mem_cons, List.not_mem_nil, or_false] at hi
    rcases hi with hi | hi | hi
    · subst hi
      refine Or.inr ⟨5, 17, rfl, (Nat.le_of_ble_eq_true rfl), ?_⟩
      refine mj_T.pl rfl rfl rfl rfl ?_
      exact mj_T.ret rfl rfl rfl y1
    · subst hi
      refine Or.inr ⟨5, 21, rfl, (Nat.le_of_ble_eq_true rfl), ?_⟩
      refine mj_T.pl rfl rfl rfl rfl ?_
      exact mj_T.ret rfl rfl rfl y1
    · subst hi
      refine Or.inr ⟨5, 25, rfl, (Nat.le_of_ble_eq_true rfl), ?_⟩
      refine mj_T.pl rfl rfl rfl rfl ?_
      exact mj_T.ret rfl rfl rfl y1
theorem jy_314 {p1 : Int} {p2 : Int} (w : jLw cK cL cR 571 n tm h) (rp1 : -2147483648 ≤ p1 ∧ p1 ≤ 2147483647) (rp2 : -2147483648 ≤ p2 ∧ p2 ≤ 2147483647) (c : mj_Ok 59 106 [.ref 1, .int (jn p1), .int (jn p2)] h (fun r => yZ Φ r.2)) : mj_Ok 60 314 [.ref 1, .int (jn p1), .int (jn p2), .ref 571] h (fun r => yZ Φ r.2) := by
  have hg : h.length ≤ n := Nat.le_of_eq w.1.1
  refine mj_Ok.of (M := mj_m314) (loc := [some (.ref 1), some (.int (jn p1)), some (.int (jn p2)), some (.ref 571), none]) rfl rfl rfl ?_
  iterate 5 refine mj_T.pl rfl rfl rfl rfl ?_
  refine mj_T.call rfl rfl (Nat.le_of_ble_eq_true rfl) (Nat.le_of_ble_eq_true rfl) (jrv_of w.1 cK4.1 (by decide) rfl (by decide) rfl _) rfl ((mj_Ok.up (by decide) (jc_106 (D := 0) cTY hg w.1 cK4.1 rp1 rp2)).and c) (fun v h1 hq => ?_) (fun i h1 hq => ?_)
  · obtain ⟨⟨hv, o1⟩, y1⟩ := hq
    obtain ⟨z, _, _, rfl⟩ := hv
    obtain ⟨_, _, f, hf⟩ := w.thr o1
    refine mj_T.step rfl rfl rfl ?_
    refine jcx.last hf rfl (fun e => ?_)
    iterate 2 refine mj_T.pl rfl rfl rfl rfl ?_
    exact mj_T.ret rfl rfl rfl (yZ.set y1)
  · obtain ⟨⟨hi, o1⟩, y1⟩ := hq
    simp only [List.mem_cons, List.not_mem_nil, or_false] at hi
    rcases hi with hi | hi
    · subst hi
      refine Or.inr ⟨4, 15, rfl, (Nat.le_of_ble_eq_true rfl), ?_⟩
      refine mj_T.pl rfl rfl rfl rfl ?_
      exact mj_T.ret rfl rfl rfl y1
    · subst hi
      refine Or.inr ⟨4, 19, rfl, (Nat.le_of_ble_eq_true rfl), ?_⟩
      refine mj_T.pl rfl rfl rfl rfl ?_
      exact mj_T.ret rfl rfl rfl y1
theorem jy_315 {p1 : Int} {p2 : Int} {p3 : Int} (w : jLw cK cL cR 571 n tm h) (rp1 : -2147483648 ≤ p1 ∧ p1 ≤ 2147483647) (rp2 : -2147483648 ≤ p2 ∧ p2 ≤ 2147483647) (rp3 : -2147483648 ≤ p3 ∧ p3 ≤ 2147483647) (c : mj_Ok 59 107 [.ref 1, .int (jn p1), .int (jn p2), .int (jn p3)] h (fun r => yZ Φ r.2)) : mj_Ok 60 315 [.ref 1, .int (jn p1), .int (jn p2), .int (jn p3), .ref 571] h (fun r => yZ Φ r.2) := by
  have hg : h.length ≤ n := Nat.le_of_eq w.1.1
  refine mj_Ok.of (M := mj_m315) (loc := [some (.ref 1), some (.int (jn p1)), some (.int (jn p2)), some (.int (jn p3)), some (.ref 571), none]) rfl rfl rfl ?_
  iterate 6 refine mj_T.pl rfl rfl rfl rfl ?_
  refine mj_T.call rfl rfl (Nat.le_of_ble_eq_true rfl) (Nat.le_of_ble_eq_true rfl) (jrv_of w.1 cK4.1 (by decide) rfl (by decide) rfl _) rfl ((mj_Ok.up (by decide) (jc_107 (D := 0) cTY hg w.1 cK4.1 rp1 rp2 rp3)).and c) (fun v h1 hq => ?_) (fun i h1 hq => ?_)
  · obtain ⟨⟨hv, o1⟩, y1⟩ := hq
    obtain ⟨z, _, _, rfl⟩ := hv
    obtain ⟨_, _, f, hf⟩ := w.thr o1
    refine mj_T.step rfl rfl rfl ?_
    refine jcx.last hf rfl (fun e => ?_)
    iterate 2 refine mj_T.pl rfl rfl rfl rfl ?_
    exact mj_T.ret rfl rfl rfl (yZ.set y1)
  · obtain ⟨⟨hi, o1⟩, y1⟩ := hq
    simp only [List.mem_cons, List.not_mem_nil, or_false] at hi
    rcases hi with hi | hi
    · subst hi
      refine Or.inr ⟨5, 17, rfl, (Nat.le_of_ble_eq_true rfl), ?_⟩
      refine mj_T.pl rfl rfl rfl rfl ?_
      exact mj_T.ret rfl rfl rfl y1
    · subst hi
      refine Or.inr ⟨5, 21, rfl, (Nat.le_of_ble_eq_true rfl), ?_⟩
      refine mj_T.pl rfl rfl rfl rfl ?_
      exact mj_T.ret rfl rfl rfl y1
theorem jy_316 {p1 : Int} {p2 : Int} {p3 : Int} {p4 : Int} (w : jLw cK cL cR 571 n tm h) (rp1 : -2147483648 ≤ p1 ∧ p1 ≤ 2147483647) (rp2 : -2147483648 ≤ p2 ∧ p2 ≤ 2147483647) (rp3 : -2147483648 ≤ p3 ∧ p3 ≤ 2147483647) (rp4 : -2147483648 ≤ p4 ∧ p4 ≤ 2147483647) (c : mj_Ok 59 108 [.ref 1, .int (jn p1), .int (jn p2), .int (jn p3), .int (jn p4)] h (fun r => yZ Φ r.2)) : mj_Ok 60 316 [.ref 1, .int (jn p1), .int (jn p2), .int (jn p3), .int (jn p4), .ref 571] h (fun r => yZ Φ r.2) := by
  have hg : h.length ≤ n := Nat.le_of_eq w.1.1
  refine mj_Ok.of (M := mj_m316) (loc := [some (.ref 1), some (.int (jn p1)), some (.int (jn p2)), some (.int (jn p3)), some (.int (jn p4)), some (.ref 571), none]) rfl rfl rfl ?_
  iterate 7 refine mj_T.pl rfl rfl rfl rfl ?_
  refine mj_T.call rfl rfl (Nat.le_of_ble_eq_true rfl) (Nat.le_of_ble_eq_true rfl) (jrv_of w.1 cK4.1 (by decide) rfl (by decide) rfl _) rfl ((mj_Ok.up (by decide) (jc_108 (D := 0) cTY hg w.1 cK4.1 rp1 rp2 rp3 rp4)).and c) (fun v h1 hq => ?_) (fun i h1 hq => ?_)
  · obtain ⟨⟨hv, o1⟩, y1⟩ := hq
    obtain ⟨z, _, _, rfl⟩ := hv
    obtain ⟨_, _, f, hf⟩ := w.thr o1
    refine mj_T.step rfl rfl rfl ?_
    refine jcx.last hf rfl (fun e => ?_)
    iterate 2 refine mj_T.pl rfl rfl rfl rfl ?_
    exact mj_T.ret rfl rfl rfl (yZ.set y1)
  · obtain ⟨⟨hi, o1⟩, y1⟩ := hq
    simp only [List.mem_cons, List.not_mem_nil, or_false] at hi
    rcases hi with hi | hi | hi | hi
    · subst hi
      refine Or.inr ⟨6, 19, rfl, (Nat.le_of_ble_eq_true rfl), ?_⟩
      refine mj_T.pl rfl rfl rfl rfl ?_
      exact mj_T.ret rfl rfl rfl y1
    · subst hi
      refine Or.inr ⟨6, 23, rfl, (Nat.le_of_ble_eq_true rfl), ?_⟩
      refine mj_T.pl rfl rfl rfl rfl ?_
      exact mj_T.ret rfl rfl rfl y1
    · subst hi
      refine Or.inr ⟨6, 27, rfl, (Nat.le_of_ble_eq_true rfl), ?_⟩
      refine mj_T.pl rfl rfl rfl rfl ?_
      exact mj_T.ret rfl rfl rfl y1
    · subst hi
      refine Or.inr ⟨6, 31, rfl, (Nat.le_of_ble_eq_true rfl), ?_⟩
      refine mj_T.pl rfl rfl rfl rfl ?_
      exact mj_T.ret rfl rfl rfl y1
theorem jy_317 {p1 : Int} {p2 : Int} {p3 : Int} (w : jLw cK cL cR 571 n tm h) (rp1 : -2147483648 ≤ p1 ∧ p1 ≤ 2147483647) (rp2 : -2147483648 ≤ p2 ∧ p2 ≤ 2147483647) (rp3 : -2147483648 ≤ p3 ∧ p3 ≤ 2147483647) (c : mj_Ok 59 109 [.ref 1, .int (jn p1), .int (jn p2), .int (jn p3)] h (fun r => yZ Φ r.2)) : mj_Ok 60 317 [.ref 1, .int (jn p1), .int (jn p2), .int (jn p3), .ref 571] h (fun r => yZ Φ r.2) := by
  have hg : h.length ≤ n := Nat.le_of_eq w.1.1
  refine mj_Ok.of (M := mj_m317) (loc := [some (.ref 1), some (.int (jn p1)), some (.int (jn p2)), some (.int (jn p3)), some (.ref 571), none]) rfl rfl rfl ?_
  iterate 6 refine mj_T.pl rfl rfl rfl rfl ?_
  refine mj_T.call rfl rfl (Nat.le_of_ble_eq_true rfl) (Nat.le_of_ble_eq_true rfl) (jrv_of w.1 cK4.1 (by decide) rfl (by decide) rfl _) rfl ((mj_Ok.up (by decide) (jc_109 (D := 0) cTY hg w.1 cK4.1 rp1 rp2 rp3)).and c) (fun v h1 hq => ?_) (fun i h1 hq => ?_)
  · obtain ⟨⟨hv, o1⟩, y1⟩ := hq
    obtain ⟨z, _, _, rfl⟩ := hv
    obtain ⟨_, _, f, hf⟩ := w.thr o1
    refine mj_T.step rfl rfl rfl ?_
    refine jcx.last hf rfl (fun e => ?_)
    iterate 2 refine mj_T.pl rfl rfl rfl rfl ?_
    exact mj_T.ret rfl rfl rfl (yZ.set y1)
  · obtain ⟨⟨hi, o1⟩, y1⟩ := hq
    simp only [List.mem_cons, List.not_mem_nil, or_false] at hi
    rcases hi with hi | hi
    · subst hi
      refine Or.inr ⟨5, 17, rfl, (Nat.le_of_ble_eq_true rfl), ?_⟩
      refine mj_T.pl rfl rfl rfl rfl ?_
      exact mj_T.ret rfl rfl rfl y1
    · subst hi
      refine Or.inr ⟨5, 21, rfl, (Nat.le_of_ble_eq_true rfl), ?_⟩
      refine mj_T.pl rfl rfl rfl rfl ?_
      exact mj_T.ret rfl rfl rfl y1
theorem jy_318 {p1 : Int} {p2 : Int} (w : jLw cK cL cR 571 n tm h) (rp1 : -2147483648 ≤ p1 ∧ p1 ≤ 2147483647) (rp2 : -2147483648 ≤ p2 ∧ p2 ≤ 2147483647) (c : mj_Ok 59 110 [.ref 1, .int (jn p1), .int (jn p2)] h (fun r => yZ Φ r.2)) : mj_Ok 60 318 [.ref 1, .int (jn p1), .int (jn p2), .ref 571] h (fun r => yZ Φ r.2) := by
  have hg : h.length ≤ n := Nat.le_of_eq w.1.1
  refine mj_Ok.of (M := mj_m318) (loc := [some (.ref 1), some (.int (jn p1)), some (.int (jn p2)), some (.ref 571), none]) rfl rfl rfl ?_
  iterate 5 refine mj_T.pl rfl rfl rfl rfl ?_
  refine mj_T.call rfl rfl (Nat.le_of_ble_eq_true rfl) (Nat.le_of_ble_eq_true rfl) (jrv_of w.1 cK4.1 (by decide) rfl (by decide) rfl _) rfl ((mj_Ok.up (by decide) (jc_110 (D := 0) cTY hg w.1 cK4.1 rp1 rp2)).and c) (fun v h1 hq => ?_) (fun i h1 hq => ?_)
  · obtain ⟨⟨hv, o1⟩, y1⟩ := hq
    obtain ⟨z, _, _, rfl⟩ := hv
    obtain ⟨_, _, f, hf⟩ := w.thr o1
    refine mj_T.step rfl rfl rfl ?_
    refine jcx.last hf rfl (fun e => ?_)
    iterate 2 refine mj_T.pl rfl rfl rfl rfl ?_
    exact mj_T.ret rfl rfl rfl (yZ.set y1)
  · obtain ⟨⟨hi, o1⟩, y1⟩ := hq
    simp only [List.mem_cons, List.not_mem_nil, or_false] at hi
    · subst hi
      refine Or.inr ⟨4, 15, rfl, (Nat.le_of_ble_eq_true rfl), ?_⟩
      refine mj_T.pl rfl rfl rfl rfl ?_
      exact mj_T.ret rfl rfl rfl y1
theorem jy_319 {p1 : Int} {p2 : Int} (w : jLw cK cL cR 571 n tm h) (rp1 : -2147483648 ≤ p1 ∧ p1 ≤ 2147483647) (rp2 : -2147483648 ≤ p2 ∧ p2 ≤ 2147483647) (c : mj_Ok 59 111 [.ref 1, .int (jn p1), .int (jn p2)] h (fun r => yZ Φ r.2)) : mj_Ok 60 319 [.ref 1, .int (jn p1), .int (jn p2), .ref 571] h (fun r => yZ Φ r.2) := by
  have hg : h.length ≤ n := Nat.le_of_eq w.1.1
  refine mj_Ok.of (M := mj_m319) (loc := [some (.ref 1), some (.int (jn p1)), some (.int (jn p2)), some (.ref 571), none]) rfl rfl rfl ?_
  iterate 5 refine mj_T.pl rfl rfl rfl rfl ?_
  refine mj_T.call rfl rfl (Nat.le_of_ble_eq_true rfl) (Nat.le_of_ble_eq_true rfl) (jrv_of w.1 cK4.1 (by decide) rfl (by decide) rfl _) rfl ((mj_Ok.up (by decide) (jc_111 (D := 0) cTY hg w.1 cK4.1 rp1 rp2)).and c) (fun v h1 hq => ?_) (fun i h1 hq => ?_)
  · obtain ⟨⟨hv, o1⟩, y1⟩ := hq
    obtain ⟨z, _, _, rfl⟩ := hv
    obtain ⟨_, _, f, hf⟩ := w.thr o1
    refine mj_T.step rfl rfl rfl ?_
    refine jcx.last hf rfl (fun e => ?_)
    iterate 2 refine mj_T.pl rfl rfl rfl rfl ?_
    exact mj_T.ret rfl rfl rfl (yZ.set y1)
  · obtain ⟨⟨hi, o1⟩, y1⟩ := hq
    simp only [List.mem_cons, List.not_mem_nil, or_false] at hi
    rcases hi with hi | hi | hi
    · subst hi
      refine Or.inr ⟨4, 15, rfl, (Nat.le_of_ble_eq_true rfl), ?_⟩
      refine mj_T.pl rfl rfl rfl rfl ?_
      exact mj_T.ret rfl rfl rfl y1
    · subst hi
      refine Or.inr ⟨4, 19, rfl, (Nat.le_of_ble_eq_true rfl), ?_⟩
      refine mj_T.pl rfl rfl rfl rfl ?_
      exact mj_T.ret rfl rfl rfl y1
    · subst hi
      refine Or.inr ⟨4, 23, rfl, (Nat.le_of_ble_eq_true rfl), ?_⟩
      refine mj_T.pl rfl rfl rfl rfl ?_
      exact mj_T.ret rfl rfl rfl y1
theorem jy_320 {p1 : Int} {p2 : Int} {p3 : Int} (w : jLw cK cL cR 571 n tm h) (rp1 : -2147483648 ≤ p1 ∧ p1 ≤ 2147483647) (rp2 : -2147483648 ≤ p2 ∧ p2 ≤ 2147483647) (rp3 : -2147483648 ≤ p3 ∧ p3 ≤ 2147483647) (c : mj_Ok 59 112 [.ref 1, .int (jn p1), .int (jn p2), .int (jn p3)] h (fun r => yZ Φ r.2)) : mj_Ok 60 320 [.ref 1, .int (jn p1), .int (jn p2), .int (jn p3), .ref 571] h (fun r => yZ Φ r.2) := by
  have hg : h.length ≤ n := Nat.le_of_eq w.1.1
  refine mj_Ok.of (M := mj_m320) (loc := [some (.ref 1), some (.int (jn p1)), some (.int (jn p2)), some (.int (jn p3)), some (.ref 571), none]) rfl rfl rfl ?_
  iterate 6 refine mj_T.pl rfl rfl rfl rfl ?_
  refine mj_T.call rfl rfl (Nat.le_of_ble_eq_true rfl) (Nat.le_of_ble_eq_true rfl) (jrv_of w.1 cK4.1 (by decide) rfl (by decide) rfl _) rfl ((mj_Ok.up (by decide) (jc_112 (D := 0) cTY hg w.1 cK4.1 rp1 rp2 rp3)).and c) (fun v h1 hq => ?_) (fun i h1 hq => ?_)
  · obtain ⟨⟨hv, o1⟩, y1⟩ := hq
    obtain ⟨z, _, _, rfl⟩ := hv
    obtain ⟨_, _, f, hf⟩ := w.thr o1
    refine mj_T.step rfl rfl rfl ?_
    refine jcx.last hf rfl (fun e => ?_)
    iterate 2 refine mj_T.pl rfl rfl rfl rfl ?_
    exact mj_T.ret rfl rfl rfl (yZ.set y1)
  · obtain ⟨⟨hi, o1⟩, y1⟩ := hq
    simp only [List.mem_cons, List.not_mem_nil, or_false] at hi
    rcases hi with hi | hi
    · subst hi
      refine Or.inr ⟨5, 17, rfl, (Nat.le_of_ble_eq_true rfl), ?_⟩
      refine mj_T.pl rfl rfl rfl rfl ?_
      exact mj_T.ret rfl rfl rfl y1
    · subst hi
      refine Or.inr ⟨5, 21, rfl, (Nat.le_of_ble_eq_true rfl), ?_⟩
      refine mj_T.pl rfl rfl rfl rfl ?_
      exact mj_T.ret rfl rfl rfl y1
theorem jy_321 {p1 : Int} {p2 : Int} {p3 : Int} (w : jLw cK cL cR 571 n tm h) (rp1 : -2147483648 ≤ p1 ∧ p1 ≤ 2147483647) (rp2 : -2147483648 ≤ p2 ∧ p2 ≤ 2147483647) (jp3 : jR p3) (c : mj_Ok 59 113 [.ref 1, .int (jn p1), .int (jn p2), .long (jl p3)] h (fun r => yZ Φ r.2)) : mj_Ok 60 321 [.ref 1, .int (jn p1), .int (jn p2), .long (jl p3), .ref 571] h (fun r => yZ Φ r.2) := by
  have hg : h.length ≤ n := Nat.le_of_eq w.1.1
  refine mj_Ok.of (M := mj_m321) (loc := [some (.ref 1), some (.int (jn p1)), some (.int (jn p2)), some (.long (jl p3)), none, some (.ref 571), none]) rfl rfl rfl ?_
  iterate 6 refine mj_T.pl rfl rfl rfl rfl ?_
  refine mj_T.call rfl rfl (Nat.le_of_ble_eq_true rfl) (Nat.le_of_ble_eq_true rfl) (jrv_of w.1 cK4.1 (by decide) rfl (by decide) rfl _) rfl ((mj_Ok.up (by decide) (jc_113 (D := 0) cTY hg w.1 cK4.1 rp1 rp2 jp3)).and c) (fun v h1 hq => ?_) (fun i h1 hq => ?_)
  · obtain ⟨⟨hv, o1⟩, y1⟩ := hq
    obtain ⟨z, _, _, rfl⟩ := hv
    obtain ⟨_, _, f, hf⟩ := w.thr o1
    refine mj_T.step rfl rfl rfl ?_
    refine jcx.last hf rfl (fun e => ?_)
    iterate 2 refine mj_T.pl rfl rfl rfl rfl ?_
    exact mj_T.ret rfl rfl rfl (yZ.set y1)
  · obtain ⟨⟨hi, o1⟩, y1⟩ := hq
    simp only [List.mem_cons, List.not_mem_nil, or_false] at hi
    rcases hi with hi | hi | hi
    · subst hi
      refine Or.inr ⟨6, 17, rfl, (Nat.le_of_ble_eq_true rfl), ?_⟩
      refine mj_T.pl rfl rfl rfl rfl ?_
      exact mj_T.ret rfl rfl rfl y1
    · subst hi
      refine Or.inr ⟨6, 21, rfl, (Nat.le_of_ble_eq_true rfl), ?_⟩
      refine mj_T.pl rfl rfl rfl rfl ?_
      exact mj_T.ret rfl rfl rfl y1
    · subst hi
      refine Or.inr ⟨6, 25, rfl, (Nat.le_of_ble_eq_true rfl), ?_⟩
      refine mj_T.pl rfl rfl rfl rfl ?_
      exact mj_T.ret rfl rfl rfl y1
theorem jy_323 {p1 : Int} {p2 : Int} (w : jLw cK cL cR 571 n tm h) (rp1 : -2147483648 ≤ p1 ∧ p1 ≤ 2147483647) (rp2 : -2147483648 ≤ p2 ∧ p2 ≤ 2147483647) (c : mj_Ok 59 115 [.ref 1, .int (jn p1), .int (jn p2)] h (fun r => yZ Φ r.2)) : mj_Ok 60 323 [.ref 1, .int (jn p1), .int (jn p2), .ref 571] h (fun r => yZ Φ r.2) := by
  have hg : h.length ≤ n := Nat.le_of_eq w.1.1
  refine mj_Ok.of (M := mj_m323) (loc := [some (.ref 1), some (.int (jn p1)), some (.int (jn p2)), some (.ref 571), none]) rfl rfl rfl ?_
  iterate 5 refine mj_T.pl rfl rfl rfl rfl ?_
  refine mj_T.call rfl rfl (Nat.le_of_ble_eq_true rfl) (Nat.le_of_ble_eq_true rfl) (jrv_of w.1 cK4.1 (by decide) rfl (by decide) rfl _) rfl ((mj_Ok.up (by decide) (jc_115 (D := 0) cTY hg w.1 cK4.1 rp1 rp2)).and c) (fun v h1 hq => ?_) (fun i h1 hq => ?_)
  · obtain ⟨⟨hv, o1⟩, y1⟩ := hq
    obtain ⟨z, _, _, rfl⟩ := hv
    obtain ⟨_, _, f, hf⟩ := w.thr o1
    refine mj_T.step rfl rfl rfl ?_
    refine jcx.last hf rfl (fun e => ?_)
    iterate 2 refine mj_T.pl rfl rfl rfl rfl ?_
    exact mj_T.ret rfl rfl rfl (yZ.set y1)
  · obtain ⟨⟨hi, o1⟩, y1⟩ := hq
    simp only [List.mem_cons, List.not_mem_nil, or_false] at hi
    rcases hi with hi | hi
    · subst hi
      refine Or.inr ⟨4, 15, rfl, (Nat.le_of_ble_eq_true rfl), ?_⟩
      refine mj_T.pl rfl rfl rfl rfl ?_
      exact mj_T.ret rfl rfl rfl y1
    · subst hi
      refine Or.inr ⟨4, 19, rfl, (Nat.le_of_ble_eq_true rfl), ?_⟩
      refine mj_T.pl rfl rfl rfl rfl ?_
      exact mj_T.ret rfl rfl rfl y1
theorem jy_324 {p1 : Int} (w : jLw cK cL cR 571 n tm h) (rp1 : -2147483648 ≤ p1 ∧ p1 ≤ 2147483647) (c : mj_Ok 59 117 [.ref 1, .int (jn p1)] h (fun r => yZ Φ r.2)) : mj_Ok 60 324 [.ref 1, .int (jn p1), .ref 571] h (fun r => yZ Φ r.2) := by
  have hg : h.length ≤ n := Nat.le_of_eq w.1.1
  refine mj_Ok.of (M := mj_m324) (loc := [some (.ref 1), some (.int (jn p1)), some (.ref 571), none]) rfl rfl rfl ?_
  iterate 4 refine mj_T.pl rfl rfl rfl rfl ?_
  refine mj_T.call rfl rfl (Nat.le_of_ble_eq_true rfl) (Nat.le_of_ble_eq_true rfl) (jrv_of w.1 cK4.1 (by decide) rfl (by decide) rfl _) rfl ((mj_Ok.up (by decide) (jc_117 (D := 0) cTY hg w.1 cK4.1 rp1)).and c) (fun v h1 hq => ?_) (fun i h1 hq => ?_)
  · obtain ⟨⟨hv, o1⟩, y1⟩ := hq
    obtain ⟨z, _, rfl⟩ := hv
    obtain ⟨_, _, f, hf⟩ := w.thr o1
    refine jcx.last hf rfl (fun e => ?_)
    iterate 2 refine mj_T.pl rfl rfl rfl rfl ?_
    exact mj_T.ret rfl rfl rfl (yZ.set y1)
  · obtain ⟨⟨hi, o1⟩, y1⟩ := hq
    simp only [List.mem_cons, List.not_mem_nil, or_false] at hi
    rcases hi with hi | hi
    · subst hi
      refine Or.inr ⟨3, 12, rfl, (Nat.le_of_ble_eq_true rfl), ?_⟩
      refine mj_T.pl rfl rfl rfl rfl ?_
      exact mj_T.ret rfl rfl rfl y1
    · subst hi
      refine Or.inr ⟨3, 15, rfl, (Nat.le_of_ble_eq_true rfl), ?_⟩
      refine mj_T.pl rfl rfl rfl rfl ?_
      exact mj_T.ret rfl rfl rfl y1
theorem jy_325 {p1 : Int} (w : jLw cK cL cR 571 n tm h) (rp1 : -2147483648 ≤ p1 ∧ p1 ≤ 2147483647) (c : mj_Ok 59 119 [.ref 1, .int (jn p1)] h (fun r => yZ Φ r.2)) : mj_Ok 60 325 [.ref 1, .int (jn p1), .ref 571] h (fun r => yZ Φ r.2) := by
  have hg : h.length ≤ n := Nat.le_of_eq w.1.1
  refine mj_Ok.of (M := mj_m325) (loc := [some (.ref 1), some (.int (jn p1)), some (.ref 571), none]) rfl rfl rfl ?_
  iterate 4 refine mj_T.pl rfl rfl rfl rfl ?_
  refine mj_T.call rfl rfl (Nat.le_of_ble_eq_true rfl) (Nat.le_of_ble_eq_true rfl) (jrv_of w.1 cK4.1 (by decide) rfl (by decide) rfl _) rfl ((mj_Ok.up (by decide) (mj_Ok.to (jc_119 (D := 0) cTY hg w.1 cK4.1 rp1) (fun _ k => jQp.toQ w.1 k))).and c) (fun v h1 hq => ?_) (fun i h1 hq => ?_)
  · obtain ⟨⟨hv, o1⟩, y1⟩ := hq
    obtain ⟨z, _, _, rfl⟩ := hv
    obtain ⟨_, _, f, hf⟩ := w.thr o1
    refine mj_T.step rfl rfl rfl ?_
    refine jcx.last hf rfl (fun e => ?_)
    iterate 2 refine mj_T.pl rfl rfl rfl rfl ?_
    exact mj_T.ret rfl rfl rfl (yZ.set y1)
  · obtain ⟨⟨hi, o1⟩, y1⟩ := hq
    simp only [List.mem_cons, List.not_mem_nil, or_false] at hi
    · subst hi
      refine Or.inr ⟨3, 13, rfl, (Nat.le_of_ble_eq_true rfl), ?_⟩
      refine mj_T.pl rfl rfl rfl rfl ?_
      exact mj_T.ret rfl rfl rfl y1
theorem jy_326 {p1 : Int} (w : jLw cK cL cR 571 n tm h) (rp1 : -2147483648 ≤ p1 ∧ p1 ≤ 2147483647) (c : mj_Ok 59 120 [.ref 1, .int (jn p1)] h (fun r => yZ Φ r.2)) : mj_Ok 60 326 [.ref 1, .int (jn p1), .ref 571] h (fun r => yZ Φ r.2) := by
  have hg : h.length ≤ n := Nat.le_of_eq w.1.1
  refine mj_Ok.of (M := mj_m326) (loc := [some (.ref 1), some (.int (jn p1)), some (.ref 571), none]) rfl rfl rfl ?_
  iterate 4 refine mj_T.pl rfl rfl rfl rfl ?_
  refine mj_T.call rfl rfl (Nat.le_of_ble_eq_true rfl) (Nat.le_of_ble_eq_true rfl) (jrv_of w.1 cK4.1 (by decide) rfl (by decide) rfl _) rfl ((mj_Ok.up (by decide) (mj_Ok.to (jc_120 (D := 0) cTY hg w.1 cK4.1 rp1) (fun _ k => jQp.toQ w.1 k))).and c) (fun v h1 hq => ?_) (fun i h1 hq => ?_)
  · obtain ⟨⟨hv, o1⟩, y1⟩ := hq
    obtain ⟨z, _, _, rfl⟩ := hv
    obtain ⟨_, _, f, hf⟩ := w.thr o1
    refine mj_T.step rfl rfl rfl ?_
    refine jcx.last hf rfl (fun e => ?_)
    iterate 2 refine mj_T.pl rfl rfl rfl rfl ?_
    exact mj_T.ret rfl rfl rfl (yZ.set y1)
  · obtain ⟨⟨hi, o1⟩, y1⟩ := hq
    simp only [List.mem_cons, List.not_mem_nil, or_false] at hi
    · subst hi
      refine Or.inr ⟨3, 13, rfl, (Nat.le_of_ble_eq_true rfl), ?_⟩
      refine mj_T.pl rfl rfl rfl rfl ?_
      exact mj_T.ret rfl rfl rfl y1
theorem jy_327 {p1 : Int} {p2 : Int} (w : jLw cK cL cR 571 n tm h) (rp1 : -2147483648 ≤ p1 ∧ p1 ≤ 2147483647) (rp2 : -2147483648 ≤ p2 ∧ p2 ≤ 2147483647) (c : mj_Ok 59 121 [.ref 1, .int (jn p1), .int (jn p2)] h (fun r => yZ Φ r.2)) : mj_Ok 60 327 [.ref 1, .int (jn p1), .int (jn p2), .ref 571] h (fun r => yZ Φ r.2) := by
  have hg : h.length ≤ n := Nat.le_of_eq w.1.1
  refine mj_Ok.of (M := mj_m327) (loc := [some (.ref 1), some (.int (jn p1)), some (.int (jn p2)), some (.ref 571), none]) rfl rfl rfl ?_
  iterate 5 refine mj_T.pl rfl rfl rfl rfl ?_
  refine mj_T.call rfl rfl (Nat.le_of_ble_eq_true rfl) (Nat.le_of_ble_eq_true rfl) (jrv_of w.1 cK4.1 (by decide) rfl (by decide) rfl _) rfl ((mj_Ok.up (by decide) (mj_Ok.to (jc_121 (D := 0) cTY hg w.1 cK4.1 rp1 rp2) (fun _ k => jQp.toQ w.1 k))).and c) (fun v h1 hq => ?_) (fun i h1 hq => ?_)
  · obtain ⟨⟨hv, o1⟩, y1⟩ := hq
    obtain ⟨z, _, _, rfl⟩ := hv
    obtain ⟨_, _, f, hf⟩ := w.thr o1
    refine mj_T.step rfl rfl rfl ?_
    refine jcx.last hf rfl (fun e => ?_)
    iterate 2 refine mj_T.pl rfl rfl rfl rfl ?_
    exact mj_T.ret rfl rfl rfl (yZ.set y1)
  · obtain ⟨⟨hi, o1⟩, y1⟩ := hq
    simp only [List.mem_cons, List.not_mem_nil, or_false] at hi
    · subst hi
      refine Or.inr ⟨4, 15, rfl, (Nat.le_of_ble_eq_true rfl), ?_⟩
      refine mj_T.pl rfl rfl rfl rfl ?_
      exact mj_T.ret rfl rfl rfl y1
theorem jy_328 {p1 : Int} {p2 : Int} (w : jLw cK cL cR 571 n tm h) (rp1 : -2147483648 ≤ p1 ∧ p1 ≤ 2147483647) (rp2 : -2147483648 ≤ p2 ∧ p2 ≤ 2147483647) (c : mj_Ok 59 122 [.ref 1, .int (jn p1), .int (jn p2)] h (fun r => yZ Φ r.2)) : mj_Ok 60 328 [.ref 1, .int (jn p1), .int (jn p2), .ref 571] h (fun r => yZ Φ r.2) := by
  have hg : h.length ≤ n := Nat.le_of_eq w.1.1
  refine mj_Ok.of (M := mj_m328) (loc := [some (.ref 1), some (.int (jn p1)), some (.int (jn p2)), some (.ref 571), none]) rfl rfl rfl ?_
  iterate 5 refine mj_T.pl rfl rfl rfl rfl ?_
  refine mj_T.call rfl rfl (Nat.le_of_ble_eq_true rfl) (Nat.le_of_ble_eq_true rfl) (jrv_of w.1 cK4.1 (by decide) rfl (by decide) rfl _) rfl ((mj_Ok.up (by decide) (jc_122 (D := 0) cTY hg w.1 cK4.1 rp1 rp2)).and c) (fun v h1 hq => ?_) (fun i h1 hq => ?_)
  · obtain ⟨⟨hv, o1⟩, y1⟩ := hq
    obtain ⟨z, _, _, rfl⟩ := hv
    obtain ⟨_, _, f, hf⟩ := w.thr o1
    refine mj_T.step rfl rfl rfl ?_
    refine jcx.last hf rfl (fun e => ?_)
    iterate 2 refine mj_T.pl rfl rfl rfl rfl ?_
    exact mj_T.ret rfl rfl rfl (yZ.set y1)
  · obtain ⟨⟨hi, o1⟩, y1⟩ := hq
    simp only [List.mem_cons, List.not_mem_nil, or_false] at hi
    rcases hi with hi | hi
    · subst hi
      refine Or.inr ⟨4, 15, rfl, (Nat.le_of_ble_eq_true rfl), ?_⟩
      refine mj_T.pl rfl rfl rfl rfl ?_
      exact mj_T.ret rfl rfl rfl y1
    · subst hi
      refine Or.inr ⟨4, 19, rfl, (Nat.le_of_ble_eq_true rfl), ?_⟩
      refine mj_T.pl rfl rfl rfl rfl ?_
      exact mj_T.ret rfl rfl rfl y1
theorem jy_329 {p1 : Int} (w : jLw cK cL cR 571 n tm h) (rp1 : -2147483648 ≤ p1 ∧ p1 ≤ 2147483647) (c : mj_Ok 59 123 [.ref 1, .int (jn p1)] h (fun r => yZ Φ r.2)) : mj_Ok 60 329 [.ref 1, .int (jn p1), .ref 571] h (fun r => yZ Φ r.2) := by
  have hg : h.length ≤ n := Nat.le_of_eq w.1.1
  refine mj_Ok.of (M := mj_m329) (loc := [some (.ref 1), some (.int (jn p1)), some (.ref 571), none]) rfl rfl rfl ?_
  iterate 4 refine mj_T.pl rfl rfl rfl rfl ?_
  refine mj_T.call rfl rfl (Nat.le_of_ble_eq_true rfl) (Nat.le_of_ble_eq_true rfl) (jrv_of w.1 cK4.1 (by decide) rfl (by decide) rfl _) rfl ((mj_Ok.up (by decide) (jc_123 (D := 0) cTY hg w.1 cK4.1 rp1)).and c) (fun v h1 hq => ?_) (fun i h1 hq => ?_)
  · obtain ⟨⟨hv, o1⟩, y1⟩ := hq
    obtain ⟨z, _, _, rfl⟩ := hv
    obtain ⟨_, _, f, hf⟩ := w.thr o1
    refine mj_T.step rfl rfl rfl ?_
    refine jcx.last hf rfl (fun e => ?_)
    iterate 2 refine mj_T.pl rfl rfl rfl rfl ?_
    exact mj_T.ret rfl rfl rfl (yZ.set y1)
  · obtain ⟨⟨hi, o1⟩, y1⟩ := hq
    simp only [List.mem_cons, List.not_mem_nil, or_false] at hi
    · subst hi
      refine Or.inr ⟨3, 13, rfl, (Nat.le_of_ble_eq_true rfl), ?_⟩
      refine mj_T.pl rfl rfl rfl rfl ?_
      exact mj_T.ret rfl rfl rfl y1
theorem jy_330 {p1 : Int} {p2 : Int} {p3 : Int} (w : jLw cK cL cR 571 n tm h) (rp1 : -2147483648 ≤ p1 ∧ p1 ≤ 2147483647) (rp2 : -2147483648 ≤ p2 ∧ p2 ≤ 2147483647) (rp3 : -2147483648 ≤ p3 ∧ p3 ≤ 2147483647) (c : mj_Ok 59 124 [.ref 1, .int (jn p1), .int (jn p2), .int (jn p3)] h (fun r => yZ Φ r.2)) : mj_Ok 60 330 [.ref 1, .int (jn p1), .int (jn p2), .int (jn p3), .ref 571] h (fun r => yZ Φ r.2) := by
  have hg : h.length ≤ n := Nat.le_of_eq w.1.1
  refine mj_Ok.of (M := mj_m330) (loc := [some (.ref 1), some (.int (jn p1)), some (.int (jn p2)), some (.int (jn p3)), some (.ref 571), none]) rfl rfl rfl ?_
  iterate 6 refine mj_T.pl rfl rfl rfl rfl ?_
  refine mj_T.call rfl rfl (Nat.le_of_ble_eq_true rfl) (Nat.le_of_ble_eq_true rfl) (jrv_of w.1 cK4.1 (by decide) rfl (by decide) rfl _) rfl ((mj_Ok.up (by decide) (jc_124 (D := 0) cTY hg w.1 cK4.1 rp1 rp2 rp3)).and c) (fun v h1 hq => ?_) (fun i h1 hq => ?_)
  · obtain ⟨⟨hv, o1⟩, y1⟩ := hq
    obtain ⟨z, _, _, rfl⟩ := hv
    obtain ⟨_, _, f, hf⟩ := w.thr o1
    refine mj_T.step rfl rfl rfl ?_
    refine jcx.last hf rfl (fun e => ?_)
    iterate 2 refine mj_T.pl rfl rfl rfl rfl ?_
    exact mj_T.ret rfl rfl rfl (yZ.set y1)
  · obtain ⟨⟨hi, o1⟩, y1⟩ := hq
    simp only [List.mem_cons, List.not_mem_nil, or_false] at hi
    rcases hi with hi | hi
    · subst hi
      refine Or.inr ⟨5, 17, rfl, (Nat.le_of_ble_eq_true rfl), ?_⟩
      refine mj_T.pl rfl rfl rfl rfl ?_
      exact mj_T.ret rfl rfl rfl y1
    · subst hi
      refine Or.inr ⟨5, 21, rfl, (Nat.le_of_ble_eq_true rfl), ?_⟩
      refine mj_T.pl rfl rfl rfl rfl ?_
      exact mj_T.ret rfl rfl rfl y1
theorem jy_331 {p1 : Int} {p2 : Int} (w : jLw cK cL cR 571 n tm h) (rp1 : -2147483648 ≤ p1 ∧ p1 ≤ 2147483647) (rp2 : -2147483648 ≤ p2 ∧ p2 ≤ 2147483647) (c : mj_Ok 59 125 [.ref 1, .int (jn p1), .int (jn p2)] h (fun r => yZ Φ r.2)) : mj_Ok 60 331 [.ref 1, .int (jn p1), .int (jn p2), .ref 571] h (fun r => yZ Φ r.2) := by
  have hg : h.length ≤ n := Nat.le_of_eq w.1.1
  refine mj_Ok.of (M := mj_m331) (loc := [some (.ref 1), some (.int (jn p1)), some (.int (jn p2)), some (.ref 571), none]) rfl rfl rfl ?_
  iterate 5 refine mj_T.pl rfl rfl rfl rfl ?_
  refine mj_T.call rfl rfl (Nat.le_of_ble_eq_true rfl) (Nat.le_of_ble_eq_true rfl) (jrv_of w.1 cK4.1 (by decide) rfl (by decide) rfl _) rfl ((mj_Ok.up (by decide) (jc_125 (D := 0) cTY hg w.1 cK4.1 rp1 rp2)).and c) (fun v h1 hq => ?_) (fun i h1 hq => ?_)
  · obtain ⟨⟨hv, o1⟩, y1⟩ := hq
    obtain ⟨z, _, _, rfl⟩ := hv
    obtain ⟨_, _, f, hf⟩ := w.thr o1
    refine mj_T.eq (pc2 := 8) (st2 := [.int (jn z), .int (jn 0), .ref 571]) ?_ rfl rfl rfl rfl
    refine jT.if0 rfl ⟨by omega, by omega⟩ (fun _ => ?_) (fun _ => ?_)
    · refine mj_T.pl rfl rfl rfl rfl ?_
      refine jcx.last hf rfl (fun e => ?_)
      iterate 2 refine mj_T.pl rfl rfl rfl rfl ?_
      exact mj_T.ret rfl rfl rfl (yZ.set y1)
    · iterate 2 refine mj_T.pl rfl rfl rfl rfl ?_
      refine jcx.last hf rfl (fun e => ?_)
      iterate 2 refine mj_T.pl rfl rfl rfl rfl ?_
      exact mj_T.ret rfl rfl rfl (yZ.set y1)
  · obtain ⟨⟨hi, o1⟩, y1⟩ := hq
    simp only [List.mem_cons, List.not_mem_nil, or_false] at hi
    · subst hi
      refine Or.inr ⟨4, 22, rfl, (Nat.le_of_ble_eq_true rfl), ?_⟩
      refine mj_T.pl rfl rfl rfl rfl ?_
      exact mj_T.ret rfl rfl rfl y1
theorem jy_332 {p1 : Int} {p2 : Int} (w : jLw cK cL cR 571 n tm h) (rp1 : -2147483648 ≤ p1 ∧ p1 ≤ 2147483647) (rp2 : -2147483648 ≤ p2 ∧ p2 ≤ 2147483647) (c : mj_Ok 59 126 [.ref 1, .int (jn p1), .int (jn p2)] h (fun r => yZ Φ r.2)) : mj_Ok 60 332 [.ref 1, .int (jn p1), .int (jn p2), .ref 571] h (fun r => yZ Φ r.2) := by
  have hg : h.length ≤ n := Nat.le_of_eq w.1.1
  refine mj_Ok.of (M := mj_m332) (loc := [some (.ref 1), some (.int (jn p1)), some (.int (jn p2)), some (.ref 571), none]) rfl rfl rfl ?_
  iterate 5 refine mj_T.pl rfl rfl rfl rfl ?_
  refine mj_T.call rfl rfl (Nat.le_of_ble_eq_true rfl) (Nat.le_of_ble_eq_true rfl) (jrv_of w.1 cK4.1 (by decide) rfl (by decide) rfl _) rfl ((mj_Ok.up (by decide) (mj_Ok.to (jc_126 (D := 0) cTY hg w.1 cK4.1 rp1 rp2) (fun _ k => jQp.toQ w.1 k))).and c) (fun v h1 hq => ?_) (fun i h1 hq => ?_)
  · obtain ⟨⟨hv, o1⟩, y1⟩ := hq
    obtain ⟨z, _, _, rfl⟩ := hv
    obtain ⟨_, _, f, hf⟩ := w.thr o1
    refine mj_T.eq (pc2 := 8) (st2 := [.int (jn z), .int (jn 0), .ref 571]) ?_ rfl rfl rfl rfl
    refine jT.if0 rfl ⟨by omega, by omega⟩ (fun _ => ?_) (fun _ => ?_)
    · refine mj_T.pl rfl rfl rfl rfl ?_
      refine jcx.last hf rfl (fun e => ?_)
      iterate 2 refine mj_T.pl rfl rfl rfl rfl ?_
      exact mj_T.ret rfl rfl rfl (yZ.set y1)
    · iterate 2 refine mj_T.pl rfl rfl rfl rfl ?_
      refine jcx.last hf rfl (fun e => ?_)
      iterate 2 refine mj_T.pl rfl rfl rfl rfl ?_
      exact mj_T.ret rfl rfl rfl (yZ.set y1)
  · obtain ⟨⟨hi, o1⟩, y1⟩ := hq
    simp only [List.mem_cons, List.not_mem_nil, or_false] at hi
    · subst hi
      refine Or.inr ⟨4, 22, rfl, (Nat.le_of_ble_eq_true rfl), ?_⟩
      refine mj_T.pl rfl rfl rfl rfl ?_
      exact mj_T.ret rfl rfl rfl y1
theorem jy_333 {p1 : Int} {p2 : Int} (w : jLw cK cL cR 571 n tm h) (rp1 : -2147483648 ≤ p1 ∧ p1 ≤ 2147483647) (rp2 : -2147483648 ≤ p2 ∧ p2 ≤ 2147483647) (c : mj_Ok 59 127 [.ref 1, .int (jn p1), .int (jn p2)] h (fun r => yZ Φ r.2)) : mj_Ok 60 333 [.ref 1, .int (jn p1), .int (jn p2), .ref 571] h (fun r => yZ Φ r.2) := by
  have hg : h.length ≤ n := Nat.le_of_eq w.1.1
  refine mj_Ok.of (M := mj_m333) (loc := [some (.ref 1), some (.int (jn p1)), some (.int (jn p2)), some (.ref 571), none]) rfl rfl rfl ?_
  iterate 5 refine mj_T.pl rfl rfl rfl rfl ?_
  refine mj_T.call rfl rfl (Nat.le_of_ble_eq_true rfl) (Nat.le_of_ble_eq_true rfl) (jrv_of w.1 cK4.1 (by decide) rfl (by decide) rfl _) rfl ((mj_Ok.up (by decide) (jc_127 (D := 0) cTY hg w.1 cK4.1 rp1 rp2)).and c) (fun v h1 hq => ?_) (fun i h1 hq => ?_)
  · obtain ⟨⟨hv, o1⟩, y1⟩ := hq
    obtain ⟨z, _, _, rfl⟩ := hv
    obtain ⟨_, _, f, hf⟩ := w.thr o1
    refine mj_T.step rfl rfl rfl ?_
    refine jcx.last hf rfl (fun e => ?_)
    iterate 2 refine mj_T.pl rfl rfl rfl rfl ?_
    exact mj_T.ret rfl rfl rfl (yZ.set y1)
  · obtain ⟨⟨hi, o1⟩, y1⟩ := hq
    simp only [List.mem_cons, List.not_mem_nil, or_false] at hi
    · subst hi
      refine Or.inr ⟨4, 15, rfl, (Nat.le_of_ble_eq_true rfl), ?_⟩
      refine mj_T.pl rfl rfl rfl rfl ?_
      exact mj_T.ret rfl rfl rfl y1
theorem jy_334 {p1 : Int} {p2 : Int} (w : jLw cK cL cR 571 n tm h) (ap1 : 0 ≤ p1 ∧ p1 ≤ 1) (rp2 : -2147483648 ≤ p2 ∧ p2 ≤ 2147483647) (c : mj_Ok 59 129 [.ref 1, .int (jn p1), .int (jn p2)] h (fun r => yZ Φ r.2)) : mj_Ok 60 334 [.ref 1, .int (jn p1), .int (jn p2), .ref 571] h (fun r => yZ Φ r.2) := by
  have hg : h.length ≤ n := Nat.le_of_eq w.1.1
  refine mj_Ok.of (M := mj_m334) (loc := [some (.ref 1), some (.int (jn p1)), some (.int (jn p2)), some (.ref 571), none]) rfl rfl rfl ?_
  iterate 5 refine mj_T.pl rfl rfl rfl rfl ?_
  refine mj_T.call rfl rfl (Nat.le_of_ble_eq_true rfl) (Nat.le_of_ble_eq_true rfl) (jrv_of w.1 cK4.1 (by decide) rfl (by decide) rfl _) rfl ((mj_Ok.up (by decide) (mj_Ok.to (jc_129 (D := 0) cTY hg w.1 cK4.1 ap1 rp2) (fun _ k => jQp.toQ w.1 k))).and c) (fun v h1 hq => ?_) (fun i h1 hq => ?_)
  · obtain ⟨⟨hv, o1⟩, y1⟩ := hq
    obtain ⟨z, _, _, rfl⟩ := hv
    obtain ⟨_, _, f, hf⟩ := w.thr o1
    refine mj_T.step rfl rfl rfl ?_
    refine jcx.last hf rfl (fun e => ?_)
    iterate 2 refine mj_T.pl rfl rfl rfl rfl ?_
    exact mj_T.ret rfl rfl rfl (yZ.set y1)
  · obtain ⟨⟨hi, o1⟩, y1⟩ := hq
    simp only [List.mem_cons, List.not_mem_nil, or_false] at hi
    · subst hi
      refine Or.inr ⟨4, 15, rfl, (Nat.le_of_ble_eq_true rfl), ?_⟩
      refine mj_T.pl rfl rfl rfl rfl ?_
      exact mj_T.ret rfl rfl rfl y1
theorem jy_335 {p1 : Int} (w : jLw cK cL cR 571 n tm h) (rp1 : -2147483648 ≤ p1 ∧ p1 ≤ 2147483647) (c : mj_Ok 59 131 [.ref 1, .int (jn p1)] h (fun r => yZ Φ r.2)) : mj_Ok 60 335 [.ref 1, .int (jn p1), .ref 571] h (fun r => yZ Φ r.2) := by
  have hg : h.length ≤ n := Nat.le_of_eq w.1.1
  refine mj_Ok.of (M := mj_m335) (loc := [some (.ref 1), some (.int (jn p1)), some (.ref 571), none]) rfl rfl rfl ?_
  iterate 4 refine mj_T.pl rfl rfl rfl rfl ?_
  refine mj_T.call rfl rfl (Nat.le_of_ble_eq_true rfl) (Nat.le_of_ble_eq_true rfl) (jrv_of w.1 cK4.1 (by decide) rfl (by decide) rfl _) rfl ((mj_Ok.up (by decide) (jc_131 (D := 0) cTY hg w.1 cK4.1 rp1)).and c) (fun v h1 hq => ?_) (fun i h1 hq => ?_)
  · obtain ⟨⟨hv, o1⟩, y1⟩ := hq
    obtain ⟨z, _, _, rfl⟩ := hv
    obtain ⟨_, _, f, hf⟩ := w.thr o1
    refine mj_T.step rfl rfl rfl ?_
    refine jcx.last hf rfl (fun e => ?_)
    iterate 2 refine mj_T.pl rfl rfl rfl rfl ?_
    exact mj_T.ret rfl rfl rfl (yZ.set y1)
  · obtain ⟨⟨hi, o1⟩, y1⟩ := hq
    simp only [List.mem_cons, List.not_mem_nil, or_false] at hi
    rcases hi with hi | hi
    · subst hi
      refine Or.inr ⟨3, 13, rfl, (Nat.le_of_ble_eq_true rfl), ?_⟩
      refine mj_T.pl rfl rfl rfl rfl ?_
      exact mj_T.ret rfl rfl rfl y1
    · subst hi
      refine Or.inr ⟨3, 16, rfl, (Nat.le_of_ble_eq_true rfl), ?_⟩
      refine mj_T.pl rfl rfl rfl rfl ?_
      exact mj_T.ret rfl rfl rfl y1
theorem jy_336 {p1 : Int} {p2 : Int} {p3 : Int} {p4 : Int} {p5 : Int} (w : jLw cK cL cR 571 n tm h) (rp1 : -2147483648 ≤ p1 ∧ p1 ≤ 2147483647) (rp2 : -2147483648 ≤ p2 ∧ p2 ≤ 2147483647) (rp3 : -2147483648 ≤ p3 ∧ p3 ≤ 2147483647) (rp4 : -2147483648 ≤ p4 ∧ p4 ≤ 2147483647) (rp5 : -2147483648 ≤ p5 ∧ p5 ≤ 2147483647) (c : mj_Ok 59 132 [.ref 1, .int (jn p1), .int (jn p2), .int (jn p3), .int (jn p4), .int (jn p5)] h (fun r => yZ Φ r.2)) : mj_Ok 60 336 [.ref 1, .int (jn p1), .int (jn p2), .int (jn p3), .int (jn p4), .int (jn p5), .ref 571] h (fun r => yZ Φ r.2) := by
  have hg : h.length ≤ n := Nat.le_of_eq w.1.1
  refine mj_Ok.of (M := mj_m336) (loc := [some (.ref 1), some (.int (jn p1)), some (.int (jn p2)), some (.int (jn p3)), some (.int (jn p4)), some (.int (jn p5)), some (.ref 571), none]) rfl rfl rfl ?_
  iterate 8 refine mj_T.pl rfl rfl rfl rfl ?_
  refine mj_T.call rfl rfl (Nat.le_of_ble_eq_true rfl) (Nat.le_of_ble_eq_true rfl) (jrv_of w.1 cK4.1 (by decide) rfl (by decide) rfl _) rfl ((mj_Ok.up (by decide) (jc_132 (D := 0) cTY hg w.1 cK4.1 rp1 rp2 rp3 rp4 rp5)).and c) (fun v h1 hq => ?_) (fun i h1 hq => ?_)
  · obtain ⟨⟨hv, o1⟩, y1⟩ := hq
    obtain ⟨z, _, _, rfl⟩ := hv
    obtain ⟨_, _, f, hf⟩ := w.thr o1
    refine mj_T.step rfl rfl rfl ?_
    refine jcx.last hf rfl (fun e => ?_)
    iterate 2 refine mj_T.pl rfl rfl rfl rfl ?_
    exact mj_T.ret rfl rfl rfl (yZ.set y1)
  · obtain ⟨⟨hi, o1⟩, y1⟩ := hq
    simp only [List.mem_cons, List.not_mem_nil, or_false] at hi
    rcases hi with hi | hi | hi | hi
    · subst hi
      refine Or.inr ⟨7, 21, rfl, (Nat.le_of_ble_eq_true rfl), ?_⟩
      refine mj_T.pl rfl rfl rfl rfl ?_
      exact mj_T.ret rfl rfl rfl y1
    · subst hi
      refine Or.inr ⟨7, 25, rfl, (Nat.le_of_ble_eq_true rfl), ?_⟩
      refine mj_T.pl rfl rfl rfl rfl ?_
      exact mj_T.ret rfl rfl rfl y1
    · subst hi
      refine Or.inr ⟨7, 29, rfl, (Nat.le_of_ble_eq_true rfl), ?_⟩
      refine mj_T.pl rfl rfl rfl rfl ?_
      exact mj_T.ret rfl rfl rfl y1
    · subst hi
      refine Or.inr ⟨7, 33, rfl, (Nat.le_of_ble_eq_true rfl), ?_⟩
      refine mj_T.pl rfl rfl rfl rfl ?_
      exact mj_T.ret rfl rfl rfl y1
theorem jy_337 {p1 : Int} (w : jLw cK cL cR 571 n tm h) (rp1 : -2147483648 ≤ p1 ∧ p1 ≤ 2147483647) (c : mj_Ok 59 133 [.ref 1, .int (jn p1)] h (fun r => yZ Φ r.2)) : mj_Ok 60 337 [.ref 1, .int (jn p1), .ref 571] h (fun r => yZ Φ r.2) := by
  have hg : h.length ≤ n := Nat.le_of_eq w.1.1
  refine mj_Ok.of (M := mj_m337) (loc := [some (.ref 1), some (.int (jn p1)), some (.ref 571), none]) rfl rfl rfl ?_
  iterate 4 refine mj_T.pl rfl rfl rfl rfl ?_
  refine mj_T.call rfl rfl (Nat.le_of_ble_eq_true rfl) (Nat.le_of_ble_eq_true rfl) (jrv_of w.1 cK4.1 (by decide) rfl (by decide) rfl _) rfl ((mj_Ok.up (by decide) (jc_133 (D := 0) cTY hg w.1 cK4.1 rp1)).and c) (fun v h1 hq => ?_) (fun i h1 hq => ?_)
  · obtain ⟨⟨hv, o1⟩, y1⟩ := hq
    obtain ⟨z, _, _, rfl⟩ := hv
    obtain ⟨_, _, f, hf⟩ := w.thr o1
    refine mj_T.step rfl rfl rfl ?_
    refine jcx.last hf rfl (fun e => ?_)
    iterate 2 refine mj_T.pl rfl rfl rfl rfl ?_
    exact mj_T.ret rfl rfl rfl (yZ.set y1)
  · obtain ⟨⟨hi, o1⟩, y1⟩ := hq
    simp only [List.mem_cons, List.not_mem_nil, or_false] at hi
    rcases hi with hi | hi
    · subst hi
      refine Or.inr ⟨3, 13, rfl, (Nat.le_of_ble_eq_true rfl), ?_⟩
      refine mj_T.pl rfl rfl rfl rfl ?_
      exact mj_T.ret rfl rfl rfl y1
    · subst hi
      refine Or.inr ⟨3, 16, rfl, (Nat.le_of_ble_eq_true rfl), ?_⟩
      refine mj_T.pl rfl rfl rfl rfl ?_
      exact mj_T.ret rfl rfl rfl y1
theorem jy_338 {p1 : Int} {p2 : Int} {p3 : Int} (w : jLw cK cL cR 571 n tm h) (rp1 : -2147483648 ≤ p1 ∧ p1 ≤ 2147483647) (rp2 : -2147483648 ≤ p2 ∧ p2 ≤ 2147483647) (rp3 : -2147483648 ≤ p3 ∧ p3 ≤ 2147483647) (c : mj_Ok 59 134 [.ref 1, .int (jn p1), .int (jn p2), .int (jn p3)] h (fun r => yZ Φ r.2)) : mj_Ok 60 338 [.ref 1, .int (jn p1), .int (jn p2), .int (jn p3), .ref 571] h (fun r => yZ Φ r.2) := by
  have hg : h.length ≤ n := Nat.le_of_eq w.1.1
  refine mj_Ok.of (M := mj_m338) (loc := [some (.ref 1), some (.int (jn p1)), some (.int (jn p2)), some (.int (jn p3)), some (.ref 571), none]) rfl rfl rfl ?_
  iterate 6 refine mj_T.pl rfl rfl rfl rfl ?_
  refine mj_T.call rfl rfl (Nat.le_of_ble_eq_true rfl) (Nat.le_of_ble_eq_true rfl) (jrv_of w.1 cK4.1 (by decide) rfl (by decide) rfl _) rfl ((mj_Ok.up (by decide) (jc_134 (D := 0) cTY hg w.1 cK4.1 rp1 rp2 rp3)).and c) (fun v h1 hq => ?_) (fun i h1 hq => ?_)
  · obtain ⟨⟨hv, o1⟩, y1⟩ := hq
    obtain ⟨z, _, _, rfl⟩ := hv
    obtain ⟨_, _, f, hf⟩ := w.thr o1
    refine mj_T.step rfl rfl rfl ?_
    refine jcx.last hf rfl (fun e => ?_)
    iterate 2 refine mj_T.pl rfl rfl rfl rfl ?_
    exact mj_T.ret rfl rfl rfl (yZ.set y1)
  · obtain ⟨⟨hi, o1⟩, y1⟩ := hq
    simp only [List.mem_cons, List.not_mem_nil, or_false] at hi
    rcases hi with hi | hi | hi
    · subst hi
      refine Or.inr ⟨5, 17, rfl, (Nat.le_of_ble_eq_true rfl), ?_⟩
      refine mj_T.pl rfl rfl rfl rfl ?_
      exact mj_T.ret rfl rfl rfl y1
    · subst hi
      refine Or.inr ⟨5, 21, rfl, (Nat.le_of_ble_eq_true rfl), ?_⟩
      refine mj_T.pl rfl rfl rfl rfl ?_
      exact mj_T.ret rfl rfl rfl y1
    · subst hi
      refine Or.inr ⟨5, 25, rfl, (Nat.le_of_ble_eq_true rfl), ?_⟩
      refine mj_T.pl rfl rfl rfl rfl ?_
      exact mj_T.ret rfl rfl rfl y1
theorem jy_339 {p1 : Int} {p2 : Int} {p3 : Int} (w : jLw cK cL cR 571 n tm h) (rp1 : -2147483648 ≤ p1 ∧ p1 ≤ 2147483647) (rp2 : -2147483648 ≤ p2 ∧ p2 ≤ 2147483647) (rp3 : -2147483648 ≤ p3 ∧ p3 ≤ 2147483647) (c : mj_Ok 59 135 [.ref 1, .int (jn p1), .int (jn p2), .int (jn p3)] h (fun r => yZ Φ r.2)) : mj_Ok 60 339 [.ref 1, .int (jn p1), .int (jn p2), .int (jn p3), .ref 571] h (fun r => yZ Φ r.2) := by
  have hg : h.length ≤ n := Nat.le_of_eq w.1.1
  refine mj_Ok.of (M := mj_m339) (loc := [some (.ref 1), some (.int (jn p1)), some (.int (jn p2)), some (.int (jn p3)), some (.ref 571), none]) rfl rfl rfl ?_
  iterate 6 refine mj_T.pl rfl rfl rfl rfl ?_
  refine mj_T.call rfl rfl (Nat.le_of_ble_eq_true rfl) (Nat.le_of_ble_eq_true rfl) (jrv_of w.1 cK4.1 (by decide) rfl (by decide) rfl _) rfl ((mj_Ok.up (by decide) (jc_135 (D := 0) cTY hg w.1 cK4.1 rp1 rp2 rp3)).and c) (fun v h1 hq => ?_) (fun i h1 hq => ?_)
  · obtain ⟨⟨hv, o1⟩, y1⟩ := hq
    obtain ⟨z, _, _, rfl⟩ := hv
    obtain ⟨_, _, f, hf⟩ := w.thr o1
    refine mj_T.step rfl rfl rfl ?_
    refine jcx.last hf rfl (fun e => ?_)
    iterate 2 refine mj_T.pl rfl rfl rfl rfl ?_
    exact mj_T.ret rfl rfl rfl (yZ.set y1)
  · obtain ⟨⟨hi, o1⟩, y1⟩ := hq
    simp only [List.mem_cons, List.not_mem_nil, or_false] at hi
    rcases hi with hi | hi
    · subst hi
      refine Or.inr ⟨5, 17, rfl, (Nat.le_of_ble_eq_true rfl), ?_⟩
      refine mj_T.pl rfl rfl rfl rfl ?_
      exact mj_T.ret rfl rfl rfl y1
    · subst hi
      refine Or.inr ⟨5, 21, rfl, (Nat.le_of_ble_eq_true rfl), ?_⟩
      refine mj_T.pl rfl rfl rfl rfl ?_
      exact mj_T.ret rfl rfl rfl y1
theorem jy_340 {p1 : Int} (w : jLw cK cL cR 571 n tm h) (rp1 : -2147483648 ≤ p1 ∧ p1 ≤ 2147483647) (c : mj_Ok 59 136 [.ref 1, .int (jn p1)] h (fun r => yZ Φ r.2)) : mj_Ok 60 340 [.ref 1, .int (jn p1), .ref 571] h (fun r => yZ Φ r.2) := by
  have hg : h.length ≤ n := Nat.le_of_eq w.1.1
  refine mj_Ok.of (M := mj_m340) (loc := [some (.ref 1), some (.int (jn p1)), some (.ref 571), none]) rfl rfl rfl ?_
  iterate 4 refine mj_T.pl rfl rfl rfl rfl ?_
  refine mj_T.call rfl rfl (Nat.le_of_ble_eq_true rfl) (Nat.le_of_ble_eq_true rfl) (jrv_of w.1 cK4.1 (by decide) rfl (by decide) rfl _) rfl ((mj_Ok.up (by decide) (jc_136 (D := 0) cTY hg w.1 cK4.1 rp1)).and c) (fun v h1 hq => ?_) (fun i h1 hq => ?_)
  · obtain ⟨⟨hv, o1⟩, y1⟩ := hq
    obtain ⟨z, _, _, rfl⟩ := hv
    obtain ⟨_, _, f, hf⟩ := w.thr o1
    refine mj_T.step rfl rfl rfl ?_
    refine jcx.last hf rfl (fun e => ?_)
    iterate 2 refine mj_T.pl rfl rfl rfl rfl ?_
    exact mj_T.ret rfl rfl rfl (yZ.set y1)
  · obtain ⟨⟨hi, o1⟩, y1⟩ := hq
    simp only [List.mem_cons, List.not_mem_nil, or_false] at hi
    rcases hi with hi | hi
    · subst hi
      refine Or.inr ⟨3, 13, rfl, (Nat.le_of_ble_eq_true rfl), ?_⟩
      refine mj_T.pl rfl rfl rfl rfl ?_
      exact mj_T.ret rfl rfl rfl y1
    · subst hi
      refine Or.inr ⟨3, 16, rfl, (Nat.le_of_ble_eq_true rfl), ?_⟩
      refine mj_T.pl rfl rfl rfl rfl ?_
      exact mj_T.ret rfl rfl rfl y1
theorem jy_341 {p1 : Int} {p2 : Int} (w : jLw cK cL cR 571 n tm h) (rp1 : -2147483648 ≤ p1 ∧ p1 ≤ 2147483647) (rp2 : -2147483648 ≤ p2 ∧ p2 ≤ 2147483647) (c : mj_Ok 59 137 [.ref 1, .int (jn p1), .int (jn p2)] h (fun r => yZ Φ r.2)) : mj_Ok 60 341 [.ref 1, .int (jn p1), .int (jn p2), .ref 571] h (fun r => yZ Φ r.2) := by
  have hg : h.length ≤ n := Nat.le_of_eq w.1.1
  refine mj_Ok.of (M := mj_m341) (loc := [some (.ref 1), some (.int (jn p1)), some (.int (jn p2)), some (.ref 571), none]) rfl rfl rfl ?_
  iterate 5 refine mj_T.pl rfl rfl rfl rfl ?_
  refine mj_T.call rfl rfl (Nat.le_of_ble_eq_true rfl) (Nat.le_of_ble_eq_true rfl) (jrv_of w.1 cK4.1 (by decide) rfl (by decide) rfl _) rfl ((mj_Ok.up (by decide) (jc_137 (D := 0) cTY hg w.1 cK4.1 rp1 rp2)).and c) (fun v h1 hq => ?_) (fun i h1 hq => ?_)
  · obtain ⟨⟨hv, o1⟩, y1⟩ := hq
    obtain ⟨z, _, _, rfl⟩ := hv
    obtain ⟨_, _, f, hf⟩ := w.thr o1
    refine mj_T.step rfl rfl rfl ?_
    refine jcx.last hf rfl (fun e => ?_)
    iterate 2 refine mj_T.pl rfl rfl rfl rfl ?_
    exact mj_T.ret rfl rfl rfl (yZ.set y1)
  · obtain ⟨⟨hi, o1⟩, y1⟩ := hq
    simp only [List.mem_cons, List.not_mem_nil, or_false] at hi
    · subst hi
      refine Or.inr ⟨4, 15, rfl, (Nat.le_of_ble_eq_true rfl), ?_⟩
      refine mj_T.pl rfl rfl rfl rfl ?_
      exact mj_T.ret rfl rfl rfl y1
theorem jy_342 {p1 : Int} {p2 : Int} (w : jLw cK cL cR 571 n tm h) (rp1 : -2147483648 ≤ p1 ∧ p1 ≤ 2147483647) (rp2 : -2147483648 ≤ p2 ∧ p2 ≤ 2147483647) (c : mj_Ok 59 138 [.ref 1, .int (jn p1), .int (jn p2)] h (fun r => yZ Φ r.2)) : mj_Ok 60 342 [.ref 1, .int (jn p1), .int (jn p2), .ref 571] h (fun r => yZ Φ r.2) := by
  have hg : h.length ≤ n := Nat.le_of_eq w.1.1
  refine mj_Ok.of (M := mj_m342) (loc := [some (.ref 1), some (.int (jn p1)), some (.int (jn p2)), some (.ref 571), none]) rfl rfl rfl ?_
  iterate 5 refine mj_T.pl rfl rfl rfl rfl ?_
  refine mj_T.call rfl rfl (Nat.le_of_ble_eq_true rfl) (Nat.le_of_ble_eq_true rfl) (jrv_of w.1 cK4.1 (by decide) rfl (by decide) rfl _) rfl ((mj_Ok.up (by decide) (mj_Ok.to (jc_138 (D := 0) cTY hg w.1 cK4.1 rp1 rp2) (fun _ k => jQp.toQ w.1 k))).and c) (fun v h1 hq => ?_) (fun i h1 hq => ?_)
  · obtain ⟨⟨hv, o1⟩, y1⟩ := hq
    obtain ⟨z, _, _, rfl⟩ := hv
    obtain ⟨_, _, f, hf⟩ := w.thr o1
    refine mj_T.step rfl rfl rfl ?_
    refine jcx.last hf rfl (fun e => ?_)
    iterate 2 refine mj_T.pl rfl rfl rfl rfl ?_
    exact mj_T.ret rfl rfl rfl (yZ.set y1)
  · obtain ⟨⟨hi, o1⟩, y1⟩ := hq
    simp only [List.mem_cons, List.not_mem_nil, or_false] at hi
    rcases hi with hi | hi
    · subst hi
      refine Or.inr ⟨4, 15, rfl, (Nat.le_of_ble_eq_true rfl), ?_⟩
      refine mj_T.pl rfl rfl rfl rfl ?_
      exact mj_T.ret rfl rfl rfl y1
    · subst hi
      refine Or.inr ⟨4, 19, rfl, (Nat.le_of_ble_eq_true rfl), ?_⟩
      refine mj_T.pl rfl rfl rfl rfl ?_
      exact mj_T.ret rfl rfl rfl y1
theorem jy_343 {p1 : Int} {p2 : Int} (w : jLw cK cL cR 571 n tm h) (rp1 : -2147483648 ≤ p1 ∧ p1 ≤ 2147483647) (rp2 : -2147483648 ≤ p2 ∧ p2 ≤ 2147483647) (c : mj_Ok 59 139 [.ref 1, .int (jn p1), .int (jn p2)] h (fun r => yZ Φ r.2)) : mj_Ok 60 343 [.ref 1, .int (jn p1), .int (jn p2), .ref 571] h (fun r => yZ Φ r.2) := by
  have hg : h.length ≤ n := Nat.le_of_eq w.1.1
  refine mj_Ok.of (M := mj_m343) (loc := [some (.ref 1), some (.int (jn p1)), some (.int (jn p2)), some (.ref 571), none]) rfl rfl rfl ?_
  iterate 5 refine mj_T.pl rfl rfl rfl rfl ?_
  refine mj_T.call rfl rfl (Nat.le_of_ble_eq_true rfl) (Nat.le_of_ble_eq_true rfl) (jrv_of w.1 cK4.1 (by decide) rfl (by decide) rfl _) rfl ((mj_Ok.up (by decide) (mj_Ok.to (jc_139 (D := 0) cTY hg w.1 cK4.1 rp1 rp2) (fun _ k => jQp.toQ w.1 k))).and c) (fun v h1 hq => ?_) (fun i h1 hq => ?_)
  · obtain ⟨⟨hv, o1⟩, y1⟩ := hq
    obtain ⟨z, _, _, rfl⟩ := hv
    obtain ⟨_, _, f, hf⟩ := w.thr o1
    refine mj_T.step rfl rfl rfl ?_
    refine jcx.last hf rfl (fun e => ?_)
    iterate 2 refine mj_T.pl rfl rfl rfl rfl ?_
    exact mj_T.ret rfl rfl rfl (yZ.set y1)
  · obtain ⟨⟨hi, o1⟩, y1⟩ := hq
    simp only [List.mem_cons, List.not_mem_nil, or_false] at hi
    rcases hi with hi | hi | hi
    · subst hi
      refine Or.inr ⟨4, 15, rfl, (Nat.le_of_ble_eq_true rfl), ?_⟩
      refine mj_T.pl rfl rfl rfl rfl ?_
      exact mj_T.ret rfl rfl rfl y1
    · subst hi
      refine Or.inr ⟨4, 19, rfl, (Nat.le_of_ble_eq_true rfl), ?_⟩
      refine mj_T.pl rfl rfl rfl rfl ?_
      exact mj_T.ret rfl rfl rfl y1
    · subst hi
      refine Or.inr ⟨4, 23, rfl, (Nat.le_of_ble_eq_true rfl), ?_⟩
      refine mj_T.pl rfl rfl rfl rfl ?_
      exact mj_T.ret rfl rfl rfl y1
theorem jy_345 {p1 : Int} (w : jLw cK cL cR 571 n tm h) (rp1 : -2147483648 ≤ p1 ∧ p1 ≤ 2147483647) (c : mj_Ok 59 144 [.ref 1, .int (jn p1)] h (fun r => yZ Φ r.2)) : mj_Ok 60 345 [.ref 1, .int (jn p1), .ref 571] h (fun r => yZ Φ r.2) := by
  have hg : h.length ≤ n := Nat.le_of_eq w.1.1
  refine mj_Ok.of (M := mj_m345) (loc := [some (.ref 1), some (.int (jn p1)), some (.ref 571), none]) rfl rfl rfl ?_
  iterate 4 refine mj_T.pl rfl rfl rfl rfl ?_
  refine mj_T.call rfl rfl (Nat.le_of_ble_eq_true rfl) (Nat.le_of_ble_eq_true rfl) (jrv_of w.1 cK4.1 (by decide) rfl (by decide) rfl _) rfl ((mj_Ok.up (by decide) (jc_144 (D := 0) cTY hg w.1 cK4.1 rp1)).and c) (fun v h1 hq => ?_) (fun i h1 hq => ?_)
  · obtain ⟨⟨hv, o1⟩, y1⟩ := hq
    obtain ⟨z, _, _, rfl⟩ := hv
    obtain ⟨_, _, f, hf⟩ := w.thr o1
    refine mj_T.step rfl rfl rfl ?_
    refine jcx.last hf rfl (fun e => ?_)
    iterate 2 refine mj_T.pl rfl rfl rfl rfl ?_
    exact mj_T.ret rfl rfl rfl (yZ.set y1)
  · obtain ⟨⟨hi, o1⟩, y1⟩ := hq
    simp only [List.mem_cons, List.not_mem_nil, or_false] at hi
    · subst hi
      refine Or.inr ⟨3, 13, rfl, (Nat.le_of_ble_eq_true rfl), ?_⟩
      refine mj_T.pl rfl rfl rfl rfl ?_
      exact mj_T.ret rfl rfl rfl y1
theorem jy_346 {p1 : Int} (w : jLw cK cL cR 571 n tm h) (rp1 : -2147483648 ≤ p1 ∧ p1 ≤ 2147483647) (c : mj_Ok 59 145 [.ref 1, .int (jn p1)] h (fun r => yZ Φ r.2)) : mj_Ok 60 346 [.ref 1, .int (jn p1), .ref 571] h (fun r => yZ Φ r.2) := by
  have hg : h.length ≤ n := Nat.le_of_eq w.1.1
  refine mj_Ok.of (M := mj_m346) (loc := [some (.ref 1), some (.int (jn p1)), some (.ref 571), none]) rfl rfl rfl ?_
  iterate 4 refine mj_T.pl rfl rfl rfl rfl ?_
  refine mj_T.call rfl rfl (Nat.le_of_ble_eq_true rfl) (Nat.le_of_ble_eq_true rfl) (jrv_of w.1 cK4.1 (by decide) rfl (by decide) rfl _) rfl ((mj_Ok.up (by decide) (mj_Ok.to (jc_145 (D := 0) cTY hg w.1 cK4.1 rp1) (fun _ k => jQp.toQ w.1 k))).and c) (fun v h1 hq => ?_) (fun i h1 hq => ?_)
  · obtain ⟨⟨hv, o1⟩, y1⟩ := hq
    obtain ⟨z, _, _, rfl⟩ := hv
    obtain ⟨_, _, f, hf⟩ := w.thr o1
    refine mj_T.step rfl rfl rfl ?_
    refine jcx.last hf rfl (fun e => ?_)
    iterate 2 refine mj_T.pl rfl rfl rfl rfl ?_
    exact mj_T.ret rfl rfl rfl (yZ.set y1)
  · obtain ⟨⟨hi, o1⟩, y1⟩ := hq
    simp only [List.mem_cons, List.not_mem_nil, or_false] at hi
    · subst hi
      refine Or.inr ⟨3, 13, rfl, (Nat.le_of_ble_eq_true rfl), ?_⟩
      refine mj_T.pl rfl rfl rfl rfl ?_
      exact mj_T.ret rfl rfl rfl y1
theorem jy_322 {p1 : Int} (w : jLw cK cL cR 571 n tm h) (rp1 : -2147483648 ≤ p1 ∧ p1 ≤ 2147483647) (c : mj_Ok 60 114 [.ref 1, .int (jn p1)] h (fun r => yZ Φ r.2)) : mj_Ok 61 322 [.ref 1, .int (jn p1), .ref 571] h (fun r => yZ Φ r.2) := by
  have hg : h.length ≤ n := Nat.le_of_eq w.1.1
  refine mj_Ok.of (M := mj_m322) (loc := [some (.ref 1), some (.int (jn p1)), some (.ref 571), none]) rfl rfl rfl ?_
  iterate 4 refine mj_T.pl rfl rfl rfl rfl ?_
  refine mj_T.call rfl rfl (Nat.le_of_ble_eq_true rfl) (Nat.le_of_ble_eq_true rfl) (jrv_of w.1 cK4.1 (by decide) rfl (by decide) rfl _) rfl ((mj_Ok.up (by decide) (jc_114 (D := 0) cTY hg w.1 cK4.1 rp1)).and c) (fun v h1 hq => ?_) (fun i h1 hq => ?_)
  · obtain ⟨hq, x1⟩ := hq
    rcases hq with ⟨_, hv, _⟩ | ⟨hp, ⟨z, hv, o1⟩ | ⟨_, _, hv, _⟩⟩
    · cases hv
    · cases hv
      obtain ⟨_, _, f, hf⟩ := w.thr o1
      refine mj_T.step rfl rfl rfl ?_
      refine jcx.last hf rfl (fun e => ?_)
      iterate 2 refine mj_T.pl rfl rfl rfl rfl ?_
      exact mj_T.ret rfl rfl rfl (yZ.set x1)
    · cases hv
  · obtain ⟨hq, x1⟩ := hq
    have hi : i ∈ [0, 2, 1] := by
      rcases hq with ⟨_, hv, _⟩ | ⟨_, ⟨_, hv, _⟩ | ⟨_, hi, hv, _⟩⟩
      · cases hv
        exact List.mem_cons_self
      · cases hv
      · cases hv
        exact hi
    simp only [List.mem_cons, List.not_mem_nil, or_false] at hi
    rcases hi with hi | hi | hi
    · subst hi
      refine Or.inr ⟨3, 13, rfl, (Nat.le_of_ble_eq_true rfl), ?_⟩
      refine mj_T.pl rfl rfl rfl rfl ?_
      exact mj_T.ret rfl rfl rfl x1
    · subst hi
      refine Or.inr ⟨3, 16, rfl, (Nat.le_of_ble_eq_true rfl), ?_⟩
      refine mj_T.pl rfl rfl rfl rfl ?_
      exact mj_T.ret rfl rfl rfl x1
    · subst hi
      refine Or.inr ⟨3, 19, rfl, (Nat.le_of_ble_eq_true rfl), ?_⟩
      refine mj_T.pl rfl rfl rfl rfl ?_
      exact mj_T.ret rfl rfl rfl x1
theorem jy_344 {x1 x2 x3 x4 x5 : Int32} (w : jLw cK cL cR 571 n tm h) (c : mj_Ok 59 141 [.ref 1, .int x1, .int x2, .int x3, .int x4, .int x5] h (fun r => yZ Φ r.2)) : mj_Ok 60 344 [.ref 1, .int x1, .int x2, .int x3, .int x4, .int x5, .ref 571] h (fun r => yZ Φ r.2) := by
  have hg : h.length ≤ n := Nat.le_of_eq w.1.1
  have ht := w.1.2.1
  obtain ⟨mf, m1, m2, m4, _⟩ := w.1.main
  refine mj_Ok.of (M := mj_m344) (loc := [some (.ref 1), some (.int x1), some (.int x2), some (.int x3), some (.int x4), some (.int x5), some (.ref 571), none]) rfl rfl rfl ?_
  iterate 8 refine mj_T.pl rfl rfl rfl rfl ?_
  refine mj_T.call rfl rfl (Nat.le_of_ble_eq_true rfl) (Nat.le_of_ble_eq_true rfl) (jrv_of w.1 cK4.1 (by decide) rfl (by decide) rfl _) rfl ((mj_Ok.up (by decide) (jc_141 (D := 0) cTY hg w.1 cK4.1)).and c) (fun v h1 hq => ?_) (fun i h1 hq => ?_)
  · obtain ⟨hq, y⟩ := hq
    rcases hq with ⟨_, hv, _⟩ | ⟨ha, hv, o1⟩
    · cases hv
    cases hv
    obtain ⟨_, _, f, hf⟩ := w.thr o1
    refine mj_T.eq (pc2 := 14) (st2 := [.int (jn (tm + (jcn x1 x2 x3 x4 x5 20 : Int))), .int (jn 0), .ref 571]) ?_ rfl rfl rfl rfl
    refine mj_T.i2l rfl ⟨by omega, by omega⟩ ?_
    refine jcx.last hf rfl (fun e => ?_)
    iterate 2 refine mj_T.pl rfl rfl rfl rfl ?_
    exact mj_T.ret rfl rfl rfl (yZ.set y)
  · obtain ⟨hq, y⟩ := hq
    rcases hq with ⟨ha, hv, o1⟩ | ⟨_, hv, _⟩
    · cases hv
      refine Or.inr ⟨7, 21, rfl, (Nat.le_of_ble_eq_true rfl), ?_⟩
      refine mj_T.pl rfl rfl rfl rfl ?_
      exact mj_T.ret rfl rfl rfl y
    · cases hv
end JYL
/-! Both sides between two calls hold the same. -/
def YX (tm er : Int) (T : Nat → Int) (h : mj_H) : Prop := ∃ (N : Nat → Int) (u : Nat) (H : Nat → Nat → Int) (hr : mj_H), cC N u H h ∧ jEm 563 hr h ∧ jIx N u H tm er T hr
theorem jIx.tI {N : Nat → Int} {u : Nat} {H : Nat → Nat → Int} {tm er : Int} {T : Nat → Int} {h : mj_H} (I : jIx N u H tm er T h) : jI tm er T h := by
  obtain ⟨S, N1, B, X, V, hs, K⟩ := I
  exact ⟨S, N1, B, X, V, hs, K.1⟩
theorem jT.asL {D pc : Nat} {M : mj_M} {loc : mj_L} {st : List Value} {h : mj_H} {Q : mj_R → Prop} {w : Int64} (k : mj_T D M pc loc (.long (jl w.toInt) :: st) h Q) : mj_T D M pc loc (.long w :: st) h Q := by rwa [jl_of] at k
section YXC
variable {N : Nat → Int} {u : Nat} {H : Nat → Nat → Int} {hr h : mj_H} {tm er : Int} {T : Nat → Int}
/-- a call of the reference in the law's heap, the class being behind the same call -/
theorem YX.call {D j : Nat} {as as2 : List Value} {tm' er' : Int} {T' : Nat → Int} {Φ Ψ : SP} (E : jEm 563 hr h) (y : yZ Φ h) (ag : AgP Φ Ψ) (c : mj_Ok D j as hr (rZ Ψ tm' er' T')) (has : ∀ N, as.map (mj_rn (jro 563 N)) = as2) : mj_Ok D j as2 h (fun r => YX tm' er' T' r.2) := by
  have hL := E.2.2.1
  have := E.run c (fun r q h3 => by
    obtain ⟨N', u', H', _, k⟩ := q
    exact jI_s8 k.tI h3)
  rw [has] at this
  refine this.to (fun r hq => ?_)
  obtain ⟨r0, hr', ⟨N2, u2, H2, p2, k⟩, _, d, _, f⟩ := hq
  obtain ⟨N1, u1, H1, p1, s1⟩ := y
  have s2 : cC N1 u1 H1 r.2 := s1.fr (fun a ha => by
    have l : a < 563 := by
      rcases Nat.lt_or_ge a 563 with c | c
      · exact c
      · exact absurd (cK_out c) ha
    exact f a (by omega) (Or.inl l))
  exact ⟨N2, u2, H2, hr', s2.cg (ag _ _ _ _ _ _ p1 p2), d, k⟩
/-- the same, and its answer -/
theorem YX.callv {D j : Nat} {as as2 : List Value} {tm' er' x : Int} {T' : Nat → Int} {Φ Ψ : SP} (E : jEm 563 hr h) (y : yZ Φ h) (ag : AgP Φ Ψ) (c : mj_Ok D j as hr (fun r => r.1 = .inl (some (.int (jn x))) ∧ rZ Ψ tm' er' T' r)) (has : ∀ N, as.map (mj_rn (jro 563 N)) = as2) : mj_Ok D j as2 h (fun r => r.1 = .inl (some (.int (jn x))) ∧ YX tm' er' T' r.2) := by
  have hL := E.2.2.1
  have := E.run c (fun r q h3 => by
    obtain ⟨_, N', u', H', _, k⟩ := q
    exact jI_s8 k.tI h3)
  rw [has] at this
  refine this.to (fun r hq => ?_)
  obtain ⟨r0, hr', ⟨v0, N2, u2, H2, p2, k⟩, v1, d, _, f⟩ := hq
  obtain ⟨N1, u1, H1, p1, s1⟩ := y
  have s2 : cC N1 u1 H1 r.2 := s1.fr (fun a ha => by
    have l : a < 563 := by
      rcases Nat.lt_or_ge a 563 with c | c
      · exact c
      · exact absurd (cK_out c) ha
    exact f a (by omega) (Or.inl l))
  have v0 : r0 = .inl (some (.int (jn x))) := v0
  refine ⟨?_, N2, u2, H2, hr', s2.cg (ag _ _ _ _ _ _ p1 p2), d, k⟩
  rw [v1, v0]
  first
  | rfl
  | done
theorem rx_pointCountX (hI : jIx N u H tm er T h) : mj_Ok 40 283 [.ref 0] h (fun r => r.1 = .inl (some (.int (jn (N 78)))) ∧ rZ (sameQ N u H) tm er T r) := by
  refine mj_Ok.of (M := mj_m283) rfl rfl rfl ?_
  obtain ⟨S, N1, B, X, V, hs, K⟩ := hI
  iterate 2 refine mj_T.pl rfl rfl rfl rfl ?_
  refine rT_put (v := 0) hs rfl rfl (by decide) rfl (fun g13 hs13 => ?_)
  have K13 := K.put (k := 3) (v := 0) ⟨by decide, by decide⟩ (by decide) (by decide) (by decide) (by decide) (by decide)
  generalize jvu S 3 0 = S13 at hs13 K13
  refine mj_T.pl rfl rfl rfl rfl ?_
  refine rT_get hs13 rfl rfl ?_
  refine mj_T.pl rfl rfl rfl rfl ?_
  refine rT_ldN (i := ((78 : Nat) : Int)) hs13 rfl ⟨by decide, by decide⟩ ?_
  rw [Int.toNat_natCast, K13.2.1 78 (by decide)]
  refine mj_T.l2i rfl ?_
  exact mj_T.ret rfl rfl rfl ⟨rfl, N, u, H, ⟨rfl, rfl, rfl⟩, ⟨S13, N1, B, X, V, hs13, K13⟩⟩
theorem cz_140 (s : cC N u H h) : mj_Ok 59 140 [.ref 1] h (fun r => r = (.inl (some (.int (jn (N 78)))), h)) := by
  obtain ⟨V, X, m, b0, d, c⟩ := s
  have hp : X 2 3 = N 78 := by
    obtain ⟨_, _, _, _, bb, _⟩ := c
    exact bb.2.1
  refine mj_Ok.of (M := mj_m140) rfl rfl rfl ?_
  refine mj_T.pl rfl rfl rfl rfl ?_
  refine mT_get m 19 cq_d1 (by decide) rfl rfl ?_
  refine mT_get (v := .int (jn (N 78))) m 10 cq_d2 (by decide) rfl (congrArg (fun z : Int => some (Value.int (jn z))) (hp)) ?_
  exact mj_T.ret rfl rfl rfl rfl
end YXC
section YZR
variable {N : Nat → Int} {u n : Nat} {H : Nat → Nat → Int} {h : mj_H} {tm : Int}
theorem yr_119 {a : Int} (A : AS N u H) (s : cC N u H h) (w : jLw cK cL cR 571 n tm h) (ra : -2147483648 ≤ a ∧ a ≤ 2147483647) : mj_Ok 59 119 [.ref 1, .int (jn a)] h (fun r => yZ (sameQ N u H) r.2) := (mj_Ok.up (by decide) (je_119 (D := 0) cTY (Nat.le_of_eq w.1.1) w.1 cK4.1 ra)).to (fun r q => (rdL.e (Nat.le_refl _) s r q).cz.yz)
theorem yr_120 {a : Int} (A : AS N u H) (s : cC N u H h) (w : jLw cK cL cR 571 n tm h) (ra : -2147483648 ≤ a ∧ a ≤ 2147483647) : mj_Ok 59 120 [.ref 1, .int (jn a)] h (fun r => yZ (sameQ N u H) r.2) := (mj_Ok.up (by decide) (je_120 (D := 0) cTY (Nat.le_of_eq w.1.1) w.1 cK4.1 ra)).to (fun r q => (rdL.e (Nat.le_refl _) s r q).cz.yz)
theorem yr_145 {a : Int} (A : AS N u H) (s : cC N u H h) (w : jLw cK cL cR 571 n tm h) (ra : -2147483648 ≤ a ∧ a ≤ 2147483647) : mj_Ok 59 145 [.ref 1, .int (jn a)] h (fun r => yZ (sameQ N u H) r.2) := (mj_Ok.up (by decide) (je_145 (D := 0) cTY (Nat.le_of_eq w.1.1) w.1 cK4.1 ra)).to (fun r q => (rdL.e (Nat.le_refl _) s r q).cz.yz)
theorem yr_121 {a b : Int} (A : AS N u H) (s : cC N u H h) (w : jLw cK cL cR 571 n tm h) (ra : -2147483648 ≤ a ∧ a ≤ 2147483647) (rb : -2147483648 ≤ b ∧ b ≤ 2147483647) : mj_Ok 59 121 [.ref 1, .int (jn a), .int (jn b)] h (fun r => yZ (sameQ N u H) r.2) := (mj_Ok.up (by decide) (je_121 (D := 0) cTY (Nat.le_of_eq w.1.1) w.1 cK4.1 ra rb)).to (fun r q => (rdL.e (Nat.le_refl _) s r q).cz.yz)
theorem yr_126 {a b : Int} (A : AS N u H) (s : cC N u H h) (w : jLw cK cL cR 571 n tm h) (ra : -2147483648 ≤ a ∧ a ≤ 2147483647) (rb : -2147483648 ≤ b ∧ b ≤ 2147483647) : mj_Ok 59 126 [.ref 1, .int (jn a), .int (jn b)] h (fun r => yZ (sameQ N u H) r.2) := (mj_Ok.up (by decide) (je_126 (D := 0) cTY (Nat.le_of_eq w.1.1) w.1 cK4.1 ra rb)).to (fun r q => (rdL.e (Nat.le_refl _) s r q).cz.yz)
theorem yr_138 {a b : Int} (A : AS N u H) (s : cC N u H h) (w : jLw cK cL cR 571 n tm h) (ra : -2147483648 ≤ a ∧ a ≤ 2147483647) (rb : -2147483648 ≤ b ∧ b ≤ 2147483647) : mj_Ok 59 138 [.ref 1, .int (jn a), .int (jn b)] h (fun r => yZ (sameQ N u H) r.2) := (mj_Ok.up (by decide) (je_138 (D := 0) cTY (Nat.le_of_eq w.1.1) w.1 cK4.1 ra rb)).to (fun r q => (rdL.e (Nat.le_refl _) s r q).cz.yz)
theorem yr_139 {a b : Int} (A : AS N u H) (s : cC N u H h) (w : jLw cK cL cR 571 n tm h) (ra : -2147483648 ≤ a ∧ a ≤ 2147483647) (rb : -2147483648 ≤ b ∧ b ≤ 2147483647) : mj_Ok 59 139 [.ref 1, .int (jn a), .int (jn b)] h (fun r => yZ (sameQ N u H) r.2) := (mj_Ok.up (by decide) (je_139 (D := 0) cTY (Nat.le_of_eq w.1.1) w.1 cK4.1 ra rb)).to (fun r q => (rdL.e (Nat.le_refl _) s r q).cz.yz)
theorem yr_129 {a b : Int} (A : AS N u H) (s : cC N u H h) (w : jLw cK cL cR 571 n tm h) (ra : 0 ≤ a ∧ a ≤ 1) (rb : -2147483648 ≤ b ∧ b ≤ 2147483647) : mj_Ok 59 129 [.ref 1, .int (jn a), .int (jn b)] h (fun r => yZ (sameQ N u H) r.2) := (mj_Ok.up (by decide) (je_129 (D := 0) cTY (Nat.le_of_eq w.1.1) w.1 cK4.1 ra rb)).to (fun r q => (rdL.e (Nat.le_refl _) s r q).cz.yz)
theorem yr_128 {a : Int} (A : AS N u H) (s : cC N u H h) (w : jLw cK cL cR 571 n tm h) (ra : 0 ≤ a ∧ a ≤ 1) : mj_Ok 59 128 [.ref 1, .int (jn a)] h (fun r => yZ (sameQ N u H) r.2) := (mj_Ok.up (by decide) (jc_128 (D := 0) cTY (Nat.le_of_eq w.1.1) w.1 cK4.1 ra)).to (fun r q => (rdL.p s r q).cz.yz)
theorem yr_130 {a : Int} (A : AS N u H) (s : cC N u H h) (w : jLw cK cL cR 571 n tm h) (ra : 0 ≤ a ∧ a ≤ 1) : mj_Ok 59 130 [.ref 1, .int (jn a)] h (fun r => yZ (sameQ N u H) r.2) := (mj_Ok.up (by decide) (jc_130 (D := 0) cTY (Nat.le_of_eq w.1.1) w.1 cK4.1 ra)).to (fun r q => (rdL.p s r q).cz.yz)
theorem yr_146 (A : AS N u H) (s : cC N u H h) (w : jLw cK cL cR 571 n tm h)  : mj_Ok 59 146 [.ref 1] h (fun r => yZ (sameQ N u H) r.2) := (mj_Ok.up (by decide) (jc_146 (D := 0) cTY (Nat.le_of_eq w.1.1) w.1 cK4.1)).to (fun r q => (rdL.p s r q).cz.yz)
theorem yr_147 (A : AS N u H) (s : cC N u H h) (w : jLw cK cL cR 571 n tm h)  : mj_Ok 59 147 [.ref 1] h (fun r => yZ (sameQ N u H) r.2) := (mj_Ok.up (by decide) (jc_147 (D := 0) cTY (Nat.le_of_eq w.1.1) w.1 cK4.1)).to (fun r q => (rdL.p s r q).cz.yz)
theorem yr_143 (A : AS N u H) (s : cC N u H h) (w : jLw cK cL cR 571 n tm h)  : mj_Ok 59 143 [.ref 1] h (fun r => yZ (sameQ N u H) r.2) := (mj_Ok.up (by decide) (jc_143 (D := 0) cTY (Nat.le_of_eq w.1.1) w.1 cK4.1)).to (fun r q => (rdL.p s r q).cz.yz)
theorem yr_122 {a b : Int} (A : AS N u H) (s : cC N u H h) (w : jLw cK cL cR 571 n tm h) (ra : -2147483648 ≤ a ∧ a ≤ 2147483647) (rb : -2147483648 ≤ b ∧ b ≤ 2147483647) : mj_Ok 59 122 [.ref 1, .int (jn a), .int (jn b)] h (fun r => yZ (sameQ N u H) r.2) := (mj_Ok.up (by decide) (pX_coefficient (D := 0) (Nat.le_refl _) A s ra rb)).to (fun _ q => q.cz.yz)
theorem yr_123 {a : Int} (A : AS N u H) (s : cC N u H h) (w : jLw cK cL cR 571 n tm h) (ra : -2147483648 ≤ a ∧ a ≤ 2147483647) : mj_Ok 59 123 [.ref 1, .int (jn a)] h (fun r => yZ (sameQ N u H) r.2) := (mj_Ok.up (by decide) (pX_content (D := 0) (Nat.le_refl _) A s ra)).to (fun _ q => q.cz.yz)
theorem yr_124 {a b c : Int} (A : AS N u H) (s : cC N u H h) (w : jLw cK cL cR 571 n tm h) (ra : -2147483648 ≤ a ∧ a ≤ 2147483647) (rb : -2147483648 ≤ b ∧ b ≤ 2147483647) (rc : -2147483648 ≤ c ∧ c ≤ 2147483647) : mj_Ok 59 124 [.ref 1, .int (jn a), .int (jn b), .int (jn c)] h (fun r => yZ (sameQ N u H) r.2) := (mj_Ok.up (by decide) (pX_value (D := 0) (Nat.le_refl _) A s ra rb rc)).to (fun _ q => q.cz.yz)
theorem yr_125 {a b : Int} (A : AS N u H) (s : cC N u H h) (w : jLw cK cL cR 571 n tm h) (ra : -2147483648 ≤ a ∧ a ≤ 2147483647) (rb : -2147483648 ≤ b ∧ b ≤ 2147483647) : mj_Ok 59 125 [.ref 1, .int (jn a), .int (jn b)] h (fun r => yZ (sameQ N u H) r.2) := (mj_Ok.up (by decide) (pX_divides (D := 0) (Nat.le_refl _) A s ra rb)).to (fun _ q => q.cz.yz)
theorem yr_127 {a b : Int} (A : AS N u H) (s : cC N u H h) (w : jLw cK cL cR 571 n tm h) (ra : -2147483648 ≤ a ∧ a ≤ 2147483647) (rb : -2147483648 ≤ b ∧ b ≤ 2147483647) : mj_Ok 59 127 [.ref 1, .int (jn a), .int (jn b)] h (fun r => yZ (sameQ N u H) r.2) := (mj_Ok.up (by decide) (pX_agreements (D := 0) (Nat.le_refl _) A s ra rb)).to (fun _ q => q.cz.yz)
theorem yr_131 {a : Int} (A : AS N u H) (s : cC N u H h) (w : jLw cK cL cR 571 n tm h) (ra : -2147483648 ≤ a ∧ a ≤ 2147483647) : mj_Ok 59 131 [.ref 1, .int (jn a)] h (fun r => yZ (sameQ N u H) r.2) := (mj_Ok.up (by decide) (pX_realRoots (D := 0) (Nat.le_refl _) A s ra)).to (fun _ q => q.cz.yz)
theorem yr_132 {a b c d e : Int} (A : AS N u H) (s : cC N u H h) (w : jLw cK cL cR 571 n tm h) (ra : -2147483648 ≤ a ∧ a ≤ 2147483647) (rb : -2147483648 ≤ b ∧ b ≤ 2147483647) (rc : -2147483648 ≤ c ∧ c ≤ 2147483647) (rd : -2147483648 ≤ d ∧ d ≤ 2147483647) (re : -2147483648 ≤ e ∧ e ≤ 2147483647) : mj_Ok 59 132 [.ref 1, .int (jn a), .int (jn b), .int (jn c), .int (jn d), .int (jn e)] h (fun r => yZ (sameQ N u H) r.2) := (mj_Ok.up (by decide) (pX_rootsBetween (D := 0) (Nat.le_refl _) A s ra rb rc rd re)).to (fun _ q => q.cz.yz)
theorem yr_133 {a : Int} (A : AS N u H) (s : cC N u H h) (w : jLw cK cL cR 571 n tm h) (ra : -2147483648 ≤ a ∧ a ≤ 2147483647) : mj_Ok 59 133 [.ref 1, .int (jn a)] h (fun r => yZ (sameQ N u H) r.2) := (mj_Ok.up (by decide) (pX_sturmLength (D := 0) (Nat.le_refl _) A s ra)).to (fun _ q => q.cz.yz)
theorem yr_134 {a b c : Int} (A : AS N u H) (s : cC N u H h) (w : jLw cK cL cR 571 n tm h) (ra : -2147483648 ≤ a ∧ a ≤ 2147483647) (rb : -2147483648 ≤ b ∧ b ≤ 2147483647) (rc : -2147483648 ≤ c ∧ c ≤ 2147483647) : mj_Ok 59 134 [.ref 1, .int (jn a), .int (jn b), .int (jn c)] h (fun r => yZ (sameQ N u H) r.2) := (mj_Ok.up (by decide) (pX_changes (D := 0) (Nat.le_refl _) A s ra rb rc)).to (fun _ q => q.cz.yz)
theorem yr_135 {a b c : Int} (A : AS N u H) (s : cC N u H h) (w : jLw cK cL cR 571 n tm h) (ra : -2147483648 ≤ a ∧ a ≤ 2147483647) (rb : -2147483648 ≤ b ∧ b ≤ 2147483647) (rc : -2147483648 ≤ c ∧ c ≤ 2147483647) : mj_Ok 59 135 [.ref 1, .int (jn a), .int (jn b), .int (jn c)] h (fun r => yZ (sameQ N u H) r.2) := (mj_Ok.up (by decide) (pX_closeIn (D := 0) (Nat.le_refl _) A s ra rb rc)).to (fun _ q => q.cz.yz)
theorem yr_136 {a : Int} (A : AS N u H) (s : cC N u H h) (w : jLw cK cL cR 571 n tm h) (ra : -2147483648 ≤ a ∧ a ≤ 2147483647) : mj_Ok 59 136 [.ref 1, .int (jn a)] h (fun r => yZ (sameQ N u H) r.2) := (mj_Ok.up (by decide) (pX_fractionRoots (D := 0) (Nat.le_refl _) A s ra)).to (fun _ q => q.cz.yz)
theorem yr_137 {a b : Int} (A : AS N u H) (s : cC N u H h) (w : jLw cK cL cR 571 n tm h) (ra : -2147483648 ≤ a ∧ a ≤ 2147483647) (rb : -2147483648 ≤ b ∧ b ≤ 2147483647) : mj_Ok 59 137 [.ref 1, .int (jn a), .int (jn b)] h (fun r => yZ (sameQ N u H) r.2) := (mj_Ok.up (by decide) (pX_fractionRoot (D := 0) (Nat.le_refl _) A s ra rb)).to (fun _ q => q.cz.yz)
theorem yr_144 {a : Int} (A : AS N u H) (s : cC N u H h) (w : jLw cK cL cR 571 n tm h) (ra : -2147483648 ≤ a ∧ a ≤ 2147483647) : mj_Ok 59 144 [.ref 1, .int (jn a)] h (fun r => yZ (sameQ N u H) r.2) := (mj_Ok.up (by decide) (pX_write (D := 0) (Nat.le_refl _) A s ra)).to (fun _ q => q.cz.yz)
theorem yr_148 (A : AS N u H) (s : cC N u H h) : mj_Ok 60 148 [.ref 1] h (fun r => yZ (sameQ N u H) r.2) := (pX_errors A s).to (fun r q => by
  obtain ⟨w, h2, s2, rfl⟩ := q
  exact ⟨N, u, H, ⟨rfl, rfl, rfl⟩, s2.cC⟩)
theorem yr_142 (s : cC N u H h) : mj_Ok 59 142 [.ref 1] h (fun r => yZ (sameQ N u H) r.2) := (mj_Ok.up (by decide) (pX_clearText s)).to (fun r q => by
  obtain ⟨w, h2, s2, rfl⟩ := q
  exact ⟨N, u, H, ⟨rfl, rfl, rfl⟩, s2.cC⟩)
end YZR
/-! The class behind its constructor. -/
/-- what a cell holds at a place, as a number -/
def xOf (h : mj_H) (a i : Nat) : Int := match h[a]? with
  | some (.inl (_, _, f)) => (match f i with
    | .int x => x.toInt
    | .long x => x.toInt
    | _ => 0)
  | some (.inr (_, fs)) => (match fs[i]? with
    | some (.int x) => x.toInt
    | some (.long x) => x.toInt
    | some (.ref r) => (r : Int)
    | _ => 0)
  | none => 0
def tmr (k a i : Nat) : Nat := match k with
  | 10 => [a + 1, a + 8, a + 9].getD i 0
  | 11 => [20, 50, 80, 110, 164, 166, 168, 170].getD i 0
  | 13 => [a + 3, a + 1].getD i 0
  | 14 => [19, 0, 0, 0, 0, 456, 466, 476].getD i 0
  | 15 => [19, 172, 0, 0, 0, 0, 445, 0, 447, 449, 451, 453].getD i 0
  | 16 => [19, 173, 0, 174, 176, 178].getD i 0
  | 19 => [2, 12, 0, 0, 13, 15, 17, 19, 172, 444, 455, 477, 479, 481, 482].getD i 0
  | _ => [a + 1].getD i 0
theorem tmr_1 : ((List.range 563).all (fun a => (List.range (jfs (cK a)).length).all fun i => match (jfs (cK a))[i]? with | some c => decide (c < 100) || decide (cR a i = tmr (cK a) a i) | none => true)) = true := by decide +kernel
theorem tmg_1 : ((List.range 563).all (fun a => !(decide (4 ≤ cK a) && decide (cK a ≤ 7)) || ((List.range (cL a)).all fun i => decide (cR a i = jMg (cK a) a i)))) = true := by decide +kernel
theorem tmk_1 : ((List.range 563).all (fun a => decide (cK a ≤ 7) || decide (cK a = 10) || decide (cK a = 11) || decide (cK a = 12) || decide (cK a = 13) || decide (cK a = 14) || decide (cK a = 15) || decide (cK a = 16) || decide (cK a = 17) || decide (cK a = 18) || decide (cK a = 19) || decide (cK a = 27))) = true := by decide +kernel
theorem tml_1 : ((List.range 563).all (fun a => !(decide (cK a = 2)) || decide (cL a = 13))) = true := by decide +kernel
theorem tmw_1 : ((List.range 563).all (fun a => !(decide (cK a = 18) || decide (cK a = 12)) || decide (cK (a + 1) = 1))) = true := by decide +kernel
theorem tmr_of {a i c k : Nat} (ka : cK a = k) (hk : k ≠ 0) (hc : (jfs k)[i]? = some c) (h1 : 100 ≤ c) : cR a i = tmr k a i := by
  subst ka
  have h2 := List.all_eq_true.mp (jall tmr_1 (cK_in hk)) i (List.mem_range.mpr (List.getElem?_eq_some_iff.mp hc).1)
  rw [hc] at h2
  have h3 : (decide (c < 100) || decide (cR a i = tmr (cK a) a i)) = true := h2
  rw [Bool.or_eq_true, decide_eq_true_eq, decide_eq_true_eq] at h3
  rcases h3 with h3 | h3
  · omega
  · exact h3
section SMF
variable {h : mj_H} {a i c k cc : Nat} {fs : List Value} {v : Value} {tm : Int}
theorem xOf_i {w : Int32} (h1 : h[a]? = some (.inr (cc, fs))) (h2 : fs[i]? = some (.int w)) : xOf h a i = w.toInt := by
  simp only [xOf, h1, h2]
theorem xOf_l {w : Int64} (h1 : h[a]? = some (.inr (cc, fs))) (h2 : fs[i]? = some (.long w)) : xOf h a i = w.toInt := by
  simp only [xOf, h1, h2]
theorem xOf_r {r : Nat} (h1 : h[a]? = some (.inr (cc, fs))) (h2 : fs[i]? = some (.ref r)) : xOf h a i = (r : Int) := by
  simp only [xOf, h1, h2]
theorem xOf_ai {t n : Nat} {f : Nat → Value} {w : Int32} (h1 : h[a]? = some (.inl (t, n, f))) (h2 : f i = .int w) : xOf h a i = w.toInt := by
  simp only [xOf, h1, h2]
theorem xOf_al {t n : Nat} {f : Nat → Value} {w : Int64} (h1 : h[a]? = some (.inl (t, n, f))) (h2 : f i = .long w) : xOf h a i = w.toInt := by
  simp only [xOf, h1, h2]
theorem lsc {n : Nat} {fs : List Value} (q : fs.length = n + 1) : ∃ (v : Value) (t : List Value), fs = v :: t ∧ t.length = n := by
  cases fs with
  | nil => cases q
  | cons v t => exact ⟨v, t, rfl, Nat.succ.inj q⟩
theorem lsz {fs : List Value} (q : fs.length = 0) : fs = [] := by
  cases fs with
  | nil => rfl
  | cons v t => cases q
def sMf (tm : Int) (k a : Nat) (fs : List Value) : Prop := ∀ i c, (jfs k)[i]? = some c → ∃ v, fs[i]? = some v ∧ jfv cK cR tm c a i v
theorem sM_r (ka : cK a = k) (hk : k ≠ 0) (hf : sMf tm k a fs) (hc : (jfs k)[i]? = some c) (h1 : 100 ≤ c) (hv : fs[i]? = some v) : v = .ref (tmr k a i) := by
  obtain ⟨v2, e, q⟩ := hf i c hc
  rw [hv] at e
  cases e
  unfold jfv at q
  rw [if_pos h1] at q
  rw [q, tmr_of ka hk hc h1]
theorem sM_n (hf : sMf tm k a fs) (hc : (jfs k)[i]? = some c) (h1 : c < 100) (h2 : c ≠ 1) (h3 : c ≠ 4) (hv : fs[i]? = some v) : ∃ x : Int, jlo tm c ≤ x ∧ x ≤ jhi tm c ∧ v = .int (jn x) := by
  obtain ⟨v2, e, q⟩ := hf i c hc
  rw [hv] at e
  cases e
  unfold jfv at q
  rw [if_neg (by omega), if_neg h2, if_neg h3] at q
  exact q
theorem sM_i (hh : h[a]? = some (.inr (cc, fs))) (hf : sMf tm k a fs) (hc : (jfs k)[i]? = some c) (h1 : c < 100) (h2 : c ≠ 1) (h3 : c ≠ 4) (hv : fs[i]? = some v) : v = .int (jn (xOf h a i)) := by
  obtain ⟨x, _, _, rfl⟩ := sM_n hf hc h1 h2 h3 hv
  rw [xOf_i hh hv, jn_of]
theorem sM_l (hh : h[a]? = some (.inr (cc, fs))) (hf : sMf tm k a fs) (hc : (jfs k)[i]? = some 1) (hv : fs[i]? = some v) : v = .long (jl (xOf h a i)) := by
  obtain ⟨v2, e, q⟩ := hf i 1 hc
  rw [hv] at e
  cases e
  unfold jfv at q
  rw [if_neg (by decide), if_pos rfl] at q
  obtain ⟨x, _, rfl⟩ := q
  rw [xOf_l hh hv, jl_of]
theorem sM_4 (hh : h[a]? = some (.inr (cc, fs))) (hf : sMf tm k a fs) (hc : (jfs k)[i]? = some 4) (hv : fs[i]? = some v) : v = .ref (xOf h a i).toNat := by
  obtain ⟨v2, e, q⟩ := hf i 4 hc
  rw [hv] at e
  cases e
  unfold jfv at q
  rw [if_neg (by decide), if_neg (by decide), if_pos rfl] at q
  obtain ⟨b, _, rfl⟩ := q
  rw [xOf_r hh hv, Int.toNat_natCast]
theorem sMo_10 (ka : cK a = 10) (hh : h[a]? = some (.inr (cc, fs))) (hl : fs.length = 4) (hf : sMf tm 10 a fs) : fs = jMf (xOf h) 10 a := by
  obtain ⟨v0, u0, rfl, l0⟩ := lsc (n := 3) hl
  obtain ⟨v1, u1, rfl, l1⟩ := lsc (n := 2) l0
  obtain ⟨v2, u2, rfl, l2⟩ := lsc (n := 1) l1
  obtain ⟨v3, u3, rfl, l3⟩ := lsc (n := 0) l2
  obtain rfl := lsz l3
  have e0 := sM_r ka (by decide) hf (i := 0) (c := 106) rfl (by decide) rfl
  have e1 := sM_r ka (by decide) hf (i := 1) (c := 101) rfl (by decide) rfl
  have e2 := sM_r ka (by decide) hf (i := 2) (c := 101) rfl (by decide) rfl
  have e3 := sM_i hh hf (i := 3) (c := 9) rfl (by decide) (by decide) (by decide) rfl
  rw [e0, e1, e2, e3]
  first
  | rfl
  | done
theorem sMo_11 (ka : cK a = 11) (hh : h[a]? = some (.inr (cc, fs))) (hl : fs.length = 8) (hf : sMf tm 11 a fs) : fs = jMf (xOf h) 11 a := by
  obtain ⟨v0, u0, rfl, l0⟩ := lsc (n := 7) hl
  obtain ⟨v1, u1, rfl, l1⟩ := lsc (n := 6) l0
  obtain ⟨v2, u2, rfl, l2⟩ := lsc (n := 5) l1
  obtain ⟨v3, u3, rfl, l3⟩ := lsc (n := 4) l2
  obtain ⟨v4, u4, rfl, l4⟩ := lsc (n := 3) l3
  obtain ⟨v5, u5, rfl, l5⟩ := lsc (n := 2) l4
  obtain ⟨v6, u6, rfl, l6⟩ := lsc (n := 1) l5
  obtain ⟨v7, u7, rfl, l7⟩ := lsc (n := 0) l6
  obtain rfl := lsz l7
  have e0 := sM_r ka (by decide) hf (i := 0) (c := 113) rfl (by decide) rfl
  have e1 := sM_r ka (by decide) hf (i := 1) (c := 113) rfl (by decide) rfl
  have e2 := sM_r ka (by decide) hf (i := 2) (c := 113) rfl (by decide) rfl
  have e3 := sM_r ka (by decide) hf (i := 3) (c := 113) rfl (by decide) rfl
  have e4 := sM_r ka (by decide) hf (i := 4) (c := 118) rfl (by decide) rfl
  have e5 := sM_r ka (by decide) hf (i := 5) (c := 118) rfl (by decide) rfl
  have e6 := sM_r ka (by decide) hf (i := 6) (c := 118) rfl (by decide) rfl
  have e7 := sM_r ka (by decide) hf (i := 7) (c := 112) rfl (by decide) rfl
  rw [e0, e1, e2, e3, e4, e5, e6, e7]
  first
  | rfl
  | done
theorem sMo_13 (ka : cK a = 13) (hh : h[a]? = some (.inr (cc, fs))) (hl : fs.length = 3) (hf : sMf tm 13 a fs) : fs = jMf (xOf h) 13 a := by
  obtain ⟨v0, u0, rfl, l0⟩ := lsc (n := 2) hl
  obtain ⟨v1, u1, rfl, l1⟩ := lsc (n := 1) l0
  obtain ⟨v2, u2, rfl, l2⟩ := lsc (n := 0) l1
  obtain rfl := lsz l2
  have e0 := sM_r ka (by decide) hf (i := 0) (c := 104) rfl (by decide) rfl
  have e1 := sM_r ka (by decide) hf (i := 1) (c := 118) rfl (by decide) rfl
  have e2 := sM_i hh hf (i := 2) (c := 6) rfl (by decide) (by decide) (by decide) rfl
  rw [e0, e1, e2]
  first
  | rfl
  | done
theorem sMo_14 (ka : cK a = 14) (hh : h[a]? = some (.inr (cc, fs))) (hl : fs.length = 8) (hf : sMf tm 14 a fs) : fs = jMf (xOf h) 14 a := by
  obtain ⟨v0, u0, rfl, l0⟩ := lsc (n := 7) hl
  obtain ⟨v1, u1, rfl, l1⟩ := lsc (n := 6) l0
  obtain ⟨v2, u2, rfl, l2⟩ := lsc (n := 5) l1
  obtain ⟨v3, u3, rfl, l3⟩ := lsc (n := 4) l2
  obtain ⟨v4, u4, rfl, l4⟩ := lsc (n := 3) l3
  obtain ⟨v5, u5, rfl, l5⟩ := lsc (n := 2) l4
  obtain ⟨v6, u6, rfl, l6⟩ := lsc (n := 1) l5
  obtain ⟨v7, u7, rfl, l7⟩ := lsc (n := 0) l6
  obtain rfl := lsz l7
  have e0 := sM_r ka (by decide) hf (i := 0) (c := 111) rfl (by decide) rfl
  have e1 := sM_4 hh hf (i := 1) rfl rfl
  have e2 := sM_i hh hf (i := 2) (c := 0) rfl (by decide) (by decide) (by decide) rfl
  have e3 := sM_i hh hf (i := 3) (c := 0) rfl (by decide) (by decide) (by decide) rfl
  have e4 := sM_i hh hf (i := 4) (c := 2) rfl (by decide) (by decide) (by decide) rfl
  have e5 := sM_r ka (by decide) hf (i := 5) (c := 106) rfl (by decide) rfl
  have e6 := sM_r ka (by decide) hf (i := 6) (c := 106) rfl (by decide) rfl
  have e7 := sM_r ka (by decide) hf (i := 7) (c := 102) rfl (by decide) rfl
  rw [e0, e1, e2, e3, e4, e5, e6, e7]
  first
  | rfl
  | done
theorem sMo_15 (ka : cK a = 15) (hh : h[a]? = some (.inr (cc, fs))) (hl : fs.length = 12) (hf : sMf tm 15 a fs) : fs = jMf (xOf h) 15 a := by
  obtain ⟨v0, u0, rfl, l0⟩ := lsc (n := 11) hl
  obtain ⟨v1, u1, rfl, l1⟩ := lsc (n := 10) l0
  obtain ⟨v2, u2, rfl, l2⟩ := lsc (n := 9) l1
  obtain ⟨v3, u3, rfl, l3⟩ := lsc (n := 8) l2
  obtain ⟨v4, u4, rfl, l4⟩ := lsc (n := 7) l3
  obtain ⟨v5, u5, rfl, l5⟩ := lsc (n := 6) l4
  obtain ⟨v6, u6, rfl, l6⟩ := lsc (n := 5) l5
  obtain ⟨v7, u7, rfl, l7⟩ := lsc (n := 4) l6
  obtain ⟨v8, u8, rfl, l8⟩ := lsc (n := 3) l7
  obtain ⟨v9, u9, rfl, l9⟩ := lsc (n := 2) l8
  obtain ⟨v10, u10, rfl, l10⟩ := lsc (n := 1) l9
  obtain ⟨v11, u11, rfl, l11⟩ := lsc (n := 0) l10
  obtain rfl := lsz l11
  have e0 := sM_r ka (by decide) hf (i := 0) (c := 111) rfl (by decide) rfl
  have e1 := sM_r ka (by decide) hf (i := 1) (c := 116) rfl (by decide) rfl
  have e2 := sM_i hh hf (i := 2) (c := 2) rfl (by decide) (by decide) (by decide) rfl
  have e3 := sM_i hh hf (i := 3) (c := 0) rfl (by decide) (by decide) (by decide) rfl
  have e4 := sM_i hh hf (i := 4) (c := 0) rfl (by decide) (by decide) (by decide) rfl
  have e5 := sM_l hh hf (i := 5) rfl rfl
  have e6 := sM_r ka (by decide) hf (i := 6) (c := 118) rfl (by decide) rfl
  have e7 := sM_i hh hf (i := 7) (c := 2) rfl (by decide) (by decide) (by decide) rfl
  have e8 := sM_r ka (by decide) hf (i := 8) (c := 118) rfl (by decide) rfl
  have e9 := sM_r ka (by decide) hf (i := 9) (c := 118) rfl (by decide) rfl
  have e10 := sM_r ka (by decide) hf (i := 10) (c := 118) rfl (by decide) rfl
  have e11 := sM_r ka (by decide) hf (i := 11) (c := 118) rfl (by decide) rfl
  rw [e0, e1, e2, e3, e4, e5, e6, e7, e8, e9, e10, e11]
  first
  | rfl
  | done
theorem sMo_16 (ka : cK a = 16) (hh : h[a]? = some (.inr (cc, fs))) (hl : fs.length = 6) (hf : sMf tm 16 a fs) : fs = jMf (xOf h) 16 a := by
  obtain ⟨v0, u0, rfl, l0⟩ := lsc (n := 5) hl
  obtain ⟨v1, u1, rfl, l1⟩ := lsc (n := 4) l0
  obtain ⟨v2, u2, rfl, l2⟩ := lsc (n := 3) l1
  obtain ⟨v3, u3, rfl, l3⟩ := lsc (n := 2) l2
  obtain ⟨v4, u4, rfl, l4⟩ := lsc (n := 1) l3
  obtain ⟨v5, u5, rfl, l5⟩ := lsc (n := 0) l4
  obtain rfl := lsz l5
  have e0 := sM_r ka (by decide) hf (i := 0) (c := 111) rfl (by decide) rfl
  have e1 := sM_r ka (by decide) hf (i := 1) (c := 105) rfl (by decide) rfl
  have e2 := sM_i hh hf (i := 2) (c := 0) rfl (by decide) (by decide) (by decide) rfl
  have e3 := sM_r ka (by decide) hf (i := 3) (c := 118) rfl (by decide) rfl
  have e4 := sM_r ka (by decide) hf (i := 4) (c := 118) rfl (by decide) rfl
  have e5 := sM_r ka (by decide) hf (i := 5) (c := 118) rfl (by decide) rfl
  rw [e0, e1, e2, e3, e4, e5]
  first
  | rfl
  | done
theorem sMo_17 (ka : cK a = 17) (hh : h[a]? = some (.inr (cc, fs))) (hl : fs.length = 2) (hf : sMf tm 17 a fs) : fs = jMf (xOf h) 17 a := by
  obtain ⟨v0, u0, rfl, l0⟩ := lsc (n := 1) hl
  obtain ⟨v1, u1, rfl, l1⟩ := lsc (n := 0) l0
  obtain rfl := lsz l1
  have e0 := sM_r ka (by decide) hf (i := 0) (c := 103) rfl (by decide) rfl
  have e1 := sM_i hh hf (i := 1) (c := 5) rfl (by decide) (by decide) (by decide) rfl
  rw [e0, e1]
  first
  | rfl
  | done
theorem sMo_19 (ka : cK a = 19) (hh : h[a]? = some (.inr (cc, fs))) (hl : fs.length = 16) (hf : sMf tm 19 a fs) : fs = jMf (xOf h) 19 a := by
  obtain ⟨v0, u0, rfl, l0⟩ := lsc (n := 15) hl
  obtain ⟨v1, u1, rfl, l1⟩ := lsc (n := 14) l0
  obtain ⟨v2, u2, rfl, l2⟩ := lsc (n := 13) l1
  obtain ⟨v3, u3, rfl, l3⟩ := lsc (n := 12) l2
  obtain ⟨v4, u4, rfl, l4⟩ := lsc (n := 11) l3
  obtain ⟨v5, u5, rfl, l5⟩ := lsc (n := 10) l4
  obtain ⟨v6, u6, rfl, l6⟩ := lsc (n := 9) l5
  obtain ⟨v7, u7, rfl, l7⟩ := lsc (n := 8) l6
  obtain ⟨v8, u8, rfl, l8⟩ := lsc (n := 7) l7
  obtain ⟨v9, u9, rfl, l9⟩ := lsc (n := 6) l8
  obtain ⟨v10, u10, rfl, l10⟩ := lsc (n := 5) l9
  obtain ⟨v11, u11, rfl, l11⟩ := lsc (n := 4) l10
  obtain ⟨v12, u12, rfl, l12⟩ := lsc (n := 3) l11
  obtain ⟨v13, u13, rfl, l13⟩ := lsc (n := 2) l12
  obtain ⟨v14, u14, rfl, l14⟩ := lsc (n := 1) l13
  obtain ⟨v15, u15, rfl, l15⟩ := lsc (n := 0) l14
  obtain rfl := lsz l15
  have e0 := sM_r ka (by decide) hf (i := 0) (c := 110) rfl (by decide) rfl
  have e1 := sM_r ka (by decide) hf (i := 1) (c := 107) rfl (by decide) rfl
  have e2 := sM_i hh hf (i := 2) (c := 0) rfl (by decide) (by decide) (by decide) rfl
  have e3 := sM_i hh hf (i := 3) (c := 0) rfl (by decide) (by decide) (by decide) rfl
  have e4 := sM_r ka (by decide) hf (i := 4) (c := 127) rfl (by decide) rfl
  have e5 := sM_r ka (by decide) hf (i := 5) (c := 117) rfl (by decide) rfl
  have e6 := sM_r ka (by decide) hf (i := 6) (c := 117) rfl (by decide) rfl
  have e7 := sM_r ka (by decide) hf (i := 7) (c := 111) rfl (by decide) rfl
  have e8 := sM_r ka (by decide) hf (i := 8) (c := 116) rfl (by decide) rfl
  have e9 := sM_r ka (by decide) hf (i := 9) (c := 115) rfl (by decide) rfl
  have e10 := sM_r ka (by decide) hf (i := 10) (c := 114) rfl (by decide) rfl
  have e11 := sM_r ka (by decide) hf (i := 11) (c := 118) rfl (by decide) rfl
  have e12 := sM_r ka (by decide) hf (i := 12) (c := 118) rfl (by decide) rfl
  have e13 := sM_r ka (by decide) hf (i := 13) (c := 102) rfl (by decide) rfl
  have e14 := sM_r ka (by decide) hf (i := 14) (c := 102) rfl (by decide) rfl
  have e15 := sM_i hh hf (i := 15) (c := 0) rfl (by decide) (by decide) (by decide) rfl
  rw [e0, e1, e2, e3, e4, e5, e6, e7, e8, e9, e10, e11, e12, e13, e14, e15]
  first
  | rfl
  | done
theorem sMo_27 (ka : cK a = 27) (hh : h[a]? = some (.inr (cc, fs))) (hl : fs.length = 2) (hf : sMf tm 27 a fs) : fs = jMf (xOf h) 27 a := by
  obtain ⟨v0, u0, rfl, l0⟩ := lsc (n := 1) hl
  obtain ⟨v1, u1, rfl, l1⟩ := lsc (n := 0) l0
  obtain rfl := lsz l1
  have e0 := sM_r ka (by decide) hf (i := 0) (c := 103) rfl (by decide) rfl
  have e1 := sM_i hh hf (i := 1) (c := 7) rfl (by decide) (by decide) (by decide) rfl
  rw [e0, e1]
  first
  | rfl
  | done
theorem sMo_18 (ka : cK a = 18) (hh : h[a]? = some (.inr (cc, fs))) (hl : fs.length = 3) (hf : sMf tm 18 a fs) : ∃ x : Int, 0 ≤ x ∧ x ≤ 1000 ∧ fs = [.ref (a + 1), .int (jn x), .int (jn (xOf h a 2))] ∧ xOf h a 1 = x := by
  obtain ⟨v0, u0, rfl, l0⟩ := lsc (n := 2) hl
  obtain ⟨v1, u1, rfl, l1⟩ := lsc (n := 1) l0
  obtain ⟨v2, u2, rfl, l2⟩ := lsc (n := 0) l1
  obtain rfl := lsz l2
  have e0 := sM_r ka (by decide) hf (i := 0) (c := 101) rfl (by decide) rfl
  obtain ⟨x, x0, x1, e1⟩ := sM_n hf (i := 1) (c := 10) rfl (by decide) (by decide) (by decide) rfl
  have e2 := sM_i hh hf (i := 2) (c := 0) rfl (by decide) (by decide) (by decide) rfl
  have x0 : 0 ≤ x := x0
  have x1 : x ≤ 1000 := x1
  have e3 : xOf h a 1 = (jn x).toInt := xOf_i hh (congrArg some e1)
  refine ⟨x, x0, x1, ?_, e3.trans (jn_toInt ⟨by omega, by omega⟩)⟩
  rw [e0, e1, e2]
  first
  | rfl
  | done
theorem sMo_12 (ka : cK a = 12) (hh : h[a]? = some (.inr (cc, fs))) (hl : fs.length = 4) (hf : sMf tm 12 a fs) : ∃ x : Int, 0 ≤ x ∧ x ≤ 60 ∧ fs = [.ref (a + 1), .int (jn x), .int (jn (xOf h a 2)), .long (jl (xOf h a 3))] := by
  obtain ⟨v0, u0, rfl, l0⟩ := lsc (n := 3) hl
  obtain ⟨v1, u1, rfl, l1⟩ := lsc (n := 2) l0
  obtain ⟨v2, u2, rfl, l2⟩ := lsc (n := 1) l1
  obtain ⟨v3, u3, rfl, l3⟩ := lsc (n := 0) l2
  obtain rfl := lsz l3
  have e0 := sM_r ka (by decide) hf (i := 0) (c := 101) rfl (by decide) rfl
  obtain ⟨x, x0, x1, e1⟩ := sM_n hf (i := 1) (c := 8) rfl (by decide) (by decide) (by decide) rfl
  have e2 := sM_i hh hf (i := 2) (c := 0) rfl (by decide) (by decide) (by decide) rfl
  have e3 := sM_l hh hf (i := 3) rfl rfl
  refine ⟨x, x0, x1, ?_⟩
  rw [e0, e1, e2, e3]
  first
  | rfl
  | done
end SMF
section SMJ
variable {h g : mj_H} {n : Nat} {tm : Int}
theorem sM_ar (o : jO cK cL cR g n tm h) {a : Nat} (ka : cK a = 1 ∨ cK a = 3) : h[a]? = some (.inl (jak (cK a), cL a, fun j => .int (jn (xOf h a j)))) := by
  obtain ⟨e, h1, h2⟩ := o.2.2.2 a (by omega)
  unfold jCf at h2
  rw [if_pos (by omega)] at h2
  obtain ⟨f, rfl, hf⟩ := h2
  rw [h1]
  have : f = fun j => .int (jn (xOf h a j)) := funext fun j => by
    have hj := hf j
    rw [if_pos ka] at hj
    obtain ⟨x, _, e⟩ := hj
    rw [xOf_ai h1 e, jn_of, e]
  rw [← this]
theorem sM_al (o : jO cK cL cR g n tm h) {a : Nat} (ka : cK a = 2) : h[a]? = some (.inl (1, 13, fun j => .long (jl (xOf h a j)))) := by
  obtain ⟨e, h1, h2⟩ := o.2.2.2 a (by omega)
  have hL : cL a = 13 := by
    have h3 := jall tml_1 (cK_in (a := a) (by omega))
    have h3 : (!(decide (cK a = 2)) || decide (cL a = 13)) = true := h3
    rw [ka] at h3
    exact of_decide_eq_true h3
  unfold jCf at h2
  rw [if_pos (by omega)] at h2
  obtain ⟨f, rfl, hf⟩ := h2
  rw [h1, ka, hL]
  have : f = fun j => .long (jl (xOf h a j)) := funext fun j => by
    have hj := hf j
    rw [if_neg (by omega), if_pos ka] at hj
    obtain ⟨x, _, e⟩ := hj
    rw [xOf_al h1 e, jl_of, e]
  rw [← this]
  rfl
theorem sM_ob (o : jO cK cL cR g n tm h) {a : Nat} (ka : 7 < cK a) : ∃ fs : List Value, h[a]? = some (.inr (jkc (cK a), fs)) ∧ fs.length = (jfs (cK a)).length ∧ sMf tm (cK a) a fs := by
  obtain ⟨e, h1, h2⟩ := o.2.2.2 a (by omega)
  unfold jCf at h2
  rw [if_neg (by omega)] at h2
  obtain ⟨fs, rfl, hl, hf⟩ := h2
  exact ⟨fs, h1, hl, hf⟩
/-- what the typed rules tell of a heap is a memory; of a Wide no more than its kind, but where it holds 0 -/
theorem sM_jM (o : jO cK cL cR g n tm h) {B : Int} (hB : 1500 < jnl B.natAbs) (by1 : ∀ x, x ∈ bydl → xOf h x 1 = 0 ∧ xOf h x 2 = 0) : jM g n (fun a => if a ∈ bydl then 0 else B) (xOf h) h := by
  refine ⟨o.1, o.2.2.1, fun a => ?_⟩
  by_cases k0 : cK a = 0
  · unfold jMk
    rw [if_pos k0]
    trivial
  have ha := cK_in k0
  unfold jMk
  rw [if_neg k0]
  by_cases k18 : cK a = 18
  · rw [if_pos k18]
    obtain ⟨fs, h1, hl, hf⟩ := sM_ob o (a := a) (by omega)
    rw [k18] at h1 hl hf
    obtain ⟨x, x0, x1, e, ex⟩ := sMo_18 k18 h1 hl hf
    have k1 : cK (a + 1) = 1 := by
      have h3 : (!(decide (cK a = 18) || decide (cK a = 12)) || decide (cK (a + 1) = 1)) = true := jall tmw_1 ha
      rw [k18] at h3
      exact of_decide_eq_true h3
    have h2 := sM_ar o (a := a + 1) (Or.inl k1)
    rw [k1] at h2
    rw [e] at h1
    refine ⟨⟨fun j => jn (xOf h (a + 1) j), x.toNat, jn (xOf h a 2), by omega, by rw [show ((x.toNat : Nat) : Int) = x by omega]; exact h1, h2⟩, fun hv => ?_⟩
    have hv : jnl (if a ∈ bydl then (0 : Int) else B).natAbs ≤ 1500 := hv
    show wW h a (cL (a + 1)) (if a ∈ bydl then (0 : Int) else B)
    by_cases c : a ∈ bydl
    · rw [if_pos c]
      obtain ⟨y1, y2⟩ := by1 a c
      refine ⟨fun j => jn (xOf h (a + 1) j), ?_, h2, fun j hj => ?_, ?_⟩
      · rw [h1, y2, show x = 0 by omega]
        show _ = some (Sum.inr (8, [Value.ref (a + 1), Value.int (jn ((jnl 0 : Nat) : Int)), Value.int (jn (jsg 0))]))
        rw [jnl_zero]
        rfl
      · have hj : j < jnl 0 := hj
        rw [jnl_zero] at hj
        omega
      · show jnl 0 ≤ _
        rw [jnl_zero]
        exact Nat.zero_le _
    · rw [if_neg c] at hv
      omega
  rw [if_neg k18]
  by_cases k12 : cK a = 12
  · rw [if_pos k12]
    obtain ⟨fs, h1, hl, hf⟩ := sM_ob o (a := a) (by omega)
    rw [k12] at h1 hl hf
    obtain ⟨x, x0, x1, e⟩ := sMo_12 k12 h1 hl hf
    have k1 : cK (a + 1) = 1 := by
      have h3 : (!(decide (cK a = 18) || decide (cK a = 12)) || decide (cK (a + 1) = 1)) = true := jall tmw_1 ha
      rw [k12] at h3
      exact of_decide_eq_true h3
    have h2 := sM_ar o (a := a + 1) (Or.inl k1)
    rw [k1] at h2
    rw [e] at h1
    refine ⟨⟨fun j => jn (xOf h (a + 1) j), x.toNat, jn (xOf h a 2), jl (xOf h a 3), by omega, by rw [show ((x.toNat : Nat) : Int) = x by omega]; exact h1, h2⟩, fun hv => ?_⟩
    have hv : jnl (if a ∈ bydl then (0 : Int) else B).natAbs ≤ 1500 := hv
    rw [if_neg (fun c => by have := bydl_k c; omega)] at hv
    omega
  rw [if_neg k12]
  by_cases k1 : cK a = 1
  · rw [if_pos k1]
    refine Or.inr ?_
    have h2 := sM_ar o (a := a) (Or.inl k1)
    rw [k1] at h2
    exact h2
  rw [if_neg k1]
  by_cases k2 : cK a = 2
  · rw [if_pos k2]
    exact sM_al o k2
  rw [if_neg k2]
  by_cases k3 : cK a = 3
  · rw [if_pos k3]
    have h2 := sM_ar o (a := a) (Or.inr k3)
    rw [k3] at h2
    exact h2
  rw [if_neg k3]
  by_cases k7 : cK a ≤ 7
  · rw [if_pos k7]
    obtain ⟨e, h1, h2⟩ := o.2.2.2 a k0
    unfold jCf at h2
    rw [if_pos k7] at h2
    obtain ⟨f, rfl, hf⟩ := h2
    refine ⟨f, h1, fun i hi => ?_⟩
    have hj := hf i
    rw [if_neg (by omega), if_neg k2] at hj
    rw [hj hi]
    have h3 : (!(decide (4 ≤ cK a) && decide (cK a ≤ 7)) || ((List.range (cL a)).all fun i => decide (cR a i = jMg (cK a) a i))) = true := jall tmg_1 ha
    rw [decide_eq_true (show 4 ≤ cK a by omega), decide_eq_true k7] at h3
    have h4 := List.all_eq_true.mp (show ((List.range (cL a)).all fun i => decide (cR a i = jMg (cK a) a i)) = true from h3) i (List.mem_range.mpr hi)
    rw [of_decide_eq_true h4]
  rw [if_neg k7]
  obtain ⟨fs, h1, hl, hf⟩ := sM_ob o (a := a) (by omega)
  rw [h1]
  have h3 := jall tmk_1 ha
  simp only [Bool.or_eq_true, decide_eq_true_eq] at h3
  have h4 : cK a = 10 ∨ cK a = 11 ∨ cK a = 13 ∨ cK a = 14 ∨ cK a = 15 ∨ cK a = 16 ∨ cK a = 17 ∨ cK a = 19 ∨ cK a = 27 := by omega
  have h5 : fs = jMf (xOf h) (cK a) a := by
    rcases h4 with q | q | q | q | q | q | q | q | q
    · rw [q] at h1 hl hf ⊢
      exact sMo_10 q h1 hl hf
    · rw [q] at h1 hl hf ⊢
      exact sMo_11 q h1 hl hf
    · rw [q] at h1 hl hf ⊢
      exact sMo_13 q h1 hl hf
    · rw [q] at h1 hl hf ⊢
      exact sMo_14 q h1 hl hf
    · rw [q] at h1 hl hf ⊢
      exact sMo_15 q h1 hl hf
    · rw [q] at h1 hl hf ⊢
      exact sMo_16 q h1 hl hf
    · rw [q] at h1 hl hf ⊢
      exact sMo_17 q h1 hl hf
    · rw [q] at h1 hl hf ⊢
      exact sMo_19 q h1 hl hf
    · rw [q] at h1 hl hf ⊢
      exact sMo_27 q h1 hl hf
  rw [← h5]
end SMJ
/-! Answers of undo and clearPoints, both sides. -/
section RPZV
variable {h : mj_H} {tm er : Int} {T : Nat → Int} {N0 : Nat → Int} {u0 : Nat} {H : Nat → Nat → Int}
theorem rx_clearPointsX (hI : jIx N0 u0 H tm er T h) : mj_Ok 40 247 [.ref 0] h (fun r => r.1 = .inl (some (.int (jn (N0 78)))) ∧ rZ (Q_clearPoints N0 u0 H) tm er T r) := by
  refine mj_Ok.of (M := mj_m247) rfl rfl rfl ?_
  obtain ⟨S, N, B, X, V, hs, K⟩ := hI
  iterate 2 refine mj_T.pl rfl rfl rfl rfl ?_
  refine rT_put (v := 0) hs rfl rfl (by decide) rfl (fun g13 hs13 => ?_)
  have K13 := K.put (k := 3) (v := 0) ⟨by decide, by decide⟩ (by decide) (by decide) (by decide) (by decide) (by decide)
  generalize jvu S 3 0 = S13 at hs13 K13
  refine mj_T.pl rfl rfl rfl rfl ?_
  refine mj_T.call (ins := .invokevirtual 201) rfl rfl (Nat.le_of_ble_eq_true rfl) (Nat.le_of_ble_eq_true rfl) (by simp [mj_recv, rS_f hs13]) rfl (mj_Ok.up (by decide) (rx_keeps (D := 0) K13 hs13)) (fun v' g14 hq' => ?_) (fun i h' hq' => by obtain ⟨_, _, _, _, _, _, h⟩ := hq'; cases h)
  obtain ⟨S14, B14, _, hs14, K14, _, hq'⟩ := hq'
  cases hq'
  refine mj_T.pl rfl rfl rfl rfl ?_
  refine rT_get hs14 rfl rfl ?_
  refine mj_T.pl rfl rfl rfl rfl ?_
  refine rT_ldN (i := ((78 : Nat) : Int)) hs14 rfl ⟨by decide, by decide⟩ ?_
  rw [Int.toNat_natCast]
  refine mj_T.l2i rfl ?_
  iterate 2 refine mj_T.pl rfl rfl rfl rfl ?_
  refine rT_get hs14 rfl rfl ?_
  iterate 2 refine mj_T.pl rfl rfl rfl rfl ?_
  refine rT_stN (i := ((78 : Nat) : Int)) (z := 0) hs14 rfl ⟨by decide, by decide⟩ (fun g15 hs15 => ?_)
  rw [Int.toNat_natCast] at hs15
  have hg := K14.1.1
  obtain ⟨q1, q2, q3, q4⟩ := hg
  have K15 := K14.row (N' := jvu N 78 0) ⟨fun j hj => by rw [jvu_ne _ _ _ (by omega)]; exact q1 j hj, by rw [jvu_at]; decide, fun k hk => by rw [jvu_ne _ _ _ (by omega), jvu_ne _ _ _ (by omega)]; exact q3 k hk, fun i j hij hj => by rw [jvu_at] at hj; omega⟩ (N1 := jvu N0 78 0) (fun j hj => by
    unfold jvu
    split
    · rfl
    · exact K14.2.1 j hj)
  refine mj_T.pl rfl rfl rfl rfl ?_
  exact mj_T.ret rfl rfl rfl ⟨congrArg (fun z : Int => (Sum.inl (some (Value.int (jn z))) : Option Value ⊕ Nat)) (K14.2.1 78 (by decide)), jvu N0 78 0, upu u0, pushH N0 H, Or.inl ⟨trivial, eqB.rf _, rfl, rfl⟩, ⟨S14, _, B14, X, V, hs15, K15⟩⟩
theorem rx_undoX (hI : jIx N0 u0 H tm er T h) : mj_Ok 40 252 [.ref 0] h (fun r => r.1 = .inl (some (.int (jn ((u0 : Int) - 1)))) ∧ rZ (undQ N0 u0 H) tm er T r) := by
  refine mj_Ok.of (M := mj_m252) rfl rfl rfl ?_
  obtain ⟨S, N, B, X, V, hs, K⟩ := hI
  iterate 2 refine mj_T.pl rfl rfl rfl rfl ?_
  refine rT_put (v := 0) hs rfl rfl (by decide) rfl (fun g16 hs16 => ?_)
  have K16 := K.put (k := 3) (v := 0) ⟨by decide, by decide⟩ (by decide) (by decide) (by decide) (by decide) (by decide)
  generalize jvu S 3 0 = S16 at hs16 K16
  obtain ⟨⟨k1, k2, k3, k4, k5, k6, k7, k8, k9⟩, kn, ku, kh⟩ := K16
  refine mj_T.pl rfl rfl rfl rfl ?_
  refine rT_get hs16 rfl rfl ?_
  refine mj_T.if0 (a := S16 2) rfl ⟨by omega, by omega⟩ (fun hc => ?_) (fun hc => ?_)
  rotate_left
  · refine mj_T.pl rfl rfl rfl rfl ?_
    simp only [jc, Bool.not_eq_false', decide_eq_true_eq] at hc
    exact mj_T.ret rfl rfl rfl (⟨congrArg (fun z : Int => (Sum.inl (some (Value.int (jn z))) : Option Value ⊕ Nat)) (show (-1 : Int) = (u0 : Int) - 1 by omega), N0, u0, H, Or.inl ⟨by omega, rfl, rfl, rfl⟩, ⟨_, _, _, _, _, hs16, ⟨⟨k1, k2, k3, k4, k5, k6, k7, k8, k9⟩, kn, ku, kh⟩⟩⟩)
  simp only [jc, Bool.not_eq_true', decide_eq_false_iff_not] at hc
  obtain ⟨c, hc2⟩ : ∃ c : Nat, S16 2 = ((c + 1 : Nat) : Int) := ⟨(S16 2).toNat - 1, by omega⟩
  iterate 2 refine mj_T.pl rfl rfl rfl rfl ?_
  refine rT_get hs16 rfl rfl ?_
  refine mj_T.pl rfl rfl rfl rfl ?_
  refine mj_T.isub (a := S16 2) (b := 1) rfl ?_
  rw [hc2, show ((c + 1 : Nat) : Int) - 1 = (c : Int) by omega]
  refine rT_put (v := (c : Int)) hs16 rfl rfl (by decide) rfl (fun g17 hs17 => ?_)
  have e : ∀ x, x ≠ 2 → jvu S16 2 (c : Int) x = S16 x := fun x hx => jvu_ne _ _ _ hx
  have e2 : jvu S16 2 (c : Int) 2 = (c : Int) := jvu_at _ _ _
  generalize jvu S16 2 (c : Int) = S17 at hs17 e e2
  refine mj_T.pl rfl rfl rfl rfl ?_
  refine rT_get hs17 rfl rfl ?_
  refine mj_T.pl rfl rfl rfl rfl ?_
  refine rT_get (v := .int (jn (c : Int))) hs17 rfl (by rw [← e2]; rfl) ?_
  refine mj_T.pl rfl rfl rfl rfl ?_
  refine mj_T.imul (a := (c : Int)) (b := 91) rfl ?_
  rw [show (c : Int) * 91 = ((c * 91 : Nat) : Int) by omega]
  refine mj_T.pl rfl rfl rfl rfl ?_
  refine rT_get hs17 rfl rfl ?_
  iterate 2 refine mj_T.pl rfl rfl rfl rfl ?_
  refine rT_cpy (s := c * 91) (d := 0) (m := 91) (f := B) (g := N) rfl rfl (rS_B hs17) (rS_N hs17) (by omega) (by decide) ⟨by omega, by decide, by decide⟩ (Nat.le_of_ble_eq_true rfl) ?_
  have hs18 := rS_setN (va_cpy B N (c * 91) 0 91) hs17
  generalize g17.set 1 _ = g18 at hs18
  refine mj_T.pl rfl rfl rfl rfl ?_
  refine rT_get (v := .int (jn (c : Int))) hs18 rfl (by rw [← e2]; rfl) ?_
  refine mj_T.ret rfl rfl rfl (⟨congrArg (fun z : Int => (Sum.inl (some (Value.int (jn z))) : Option Value ⊕ Nat)) (show (c : Int) = (u0 : Int) - 1 by omega), H 0, c, (fun k => H (k + 1)), Or.inr ⟨c, by omega, rfl, rfl, rfl⟩, ⟨_, _, _, _, _, hs18, ⟨⟨?_, by omega, fun k hk => k3 k (by omega), by rw [e 9 (by decide)]; exact k4, by rw [e 12 (by decide)]; exact k5, by rw [e 15 (by decide)]; exact k6, fun x => ?_, by rw [e 13 (by decide)]; exact k8, k9⟩, fun j hj => ?_, e2, fun k hk j hj => ?_⟩⟩⟩)
  · refine gN_congr (fun j hj => ?_) (k3 c (by omega))
    show va_cpy B N (c * 91) 0 91 j = B (c * 91 + j)
    unfold va_cpy
    rw [if_pos (by omega), show c * 91 + (j - 0) = c * 91 + j by omega]
  · by_cases q : x = 2
    · subst q
      rw [e2]
      exact ⟨by omega, by omega⟩
    · rw [e x q]
      exact k7 x
  · have y := kh 0 (by omega) j hj
    show va_cpy B N (c * 91) 0 91 j = H 0 j
    unfold va_cpy
    rw [if_pos (by omega), ← y, show c * 91 + (j - 0) = (u0 - 1 - 0) * 91 + j by rw [show u0 - 1 - 0 = c by omega]; omega]
  · have y := kh (k + 1) (by omega) j hj
    rw [show u0 - 1 - (k + 1) = c - 1 - k by omega] at y
    exact y
theorem cz_140v (s : cC N0 u0 H h) : mj_Ok 59 140 [.ref 1] h (fun r => r.1 = .inl (some (.int (jn (N0 78)))) ∧ yZ (sameQ N0 u0 H) r.2) := (cz_140 s).to (fun z hz => by
  subst hz
  exact ⟨rfl, N0, u0, H, ⟨rfl, rfl, rfl⟩, s⟩)
theorem cz_116v (A : AS N0 u0 H) (s : cC N0 u0 H h) : mj_Ok 59 116 [.ref 1] h (fun r => r.1 = .inl (some (.int (jn (N0 78)))) ∧ yZ (Q_clearPoints N0 u0 H) r.2) := (mj_Ok.up (by decide) (pX_clearPoints (D := 0) A s)).to (fun z hz => by
  obtain ⟨h2, c, rfl⟩ := hz
  exact ⟨rfl, _, _, _, Or.inl ⟨trivial, eqB.rf _, rfl, rfl⟩, c.cC⟩)
theorem cz_118v (A : AS N0 u0 H) (s : cC N0 u0 H h) : mj_Ok 59 118 [.ref 1] h (fun r => r.1 = .inl (some (.int (jn ((u0 : Int) - 1)))) ∧ yZ (undQ N0 u0 H) r.2) := (mj_Ok.up (by decide) (pX_undo (D := 0) A s)).to (fun z hz => by
  rcases hz with ⟨a, h2, c, rfl⟩ | ⟨v, a, h2, c, rfl⟩
  · exact ⟨congrArg (fun z : Int => (Sum.inl (some (Value.int (jn z))) : Option Value ⊕ Nat)) (show (-1 : Int) = (u0 : Int) - 1 by omega), _, _, _, Or.inl ⟨a, rfl, rfl, rfl⟩, c.cC⟩
  · exact ⟨congrArg (fun z : Int => (Sum.inl (some (Value.int (jn z))) : Option Value ⊕ Nat)) (show (v : Int) = (u0 : Int) - 1 by omega), _, _, _, Or.inr ⟨v, a, rfl, rfl, rfl⟩, c.cC⟩)
end RPZV
