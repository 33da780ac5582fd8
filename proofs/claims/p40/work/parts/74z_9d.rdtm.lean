/-! The class's reader over any of its texts. -/
theorem cq_tx {tx : Nat} (h : tx = 13 ∨ tx = 15 ∨ tx = 17) : (cK tx = 27 ∨ cK tx = 17) ∧ cK (tx + 1) = 3 ∧ cL (tx + 1) ≤ 340 := by
  rcases h with rfl | rfl | rfl
  · exact ⟨Or.inl cq_d13, cq_456.2.2.2.2.2.2.2.2, by rw [cq_456.2.2.2.2.2.2.1]; decide⟩
  · exact ⟨Or.inr cq_t.1.1, cq_t.1.2.1, by rw [cq_t.1.2.2.2.1]; decide⟩
  · exact ⟨Or.inr cq_t.2.1, cq_t.2.2.1, by rw [cq_t.2.2.2.2]; decide⟩
theorem rvt_bd0 {T : Nat → Int} {tm : Nat} (hT : ∀ j : Nat, j < tm → 0 ≤ T j ∧ T j ≤ 255) (a : Nat) : -1 ≤ rvt T tm a ∧ rvt T tm a ≤ 255 := by
  unfold rvt
  split
  · rename_i c
    have := hT a c
    omega
  · omega
def RFt (tx : Nat) (a e t : Int) : List Value := [.ref 19, .ref tx, .int (jn a), .int (jn e), .int (jn t), .ref 456, .ref 466, .ref 476]
/-- a text and its bytes -/
def jBt (tx tm : Nat) (T : Nat → Int) (h : mj_H) : Prop := h[tx]? = some (.inr (7, [.ref (tx + 1), .int (jn (tm : Int))])) ∧ ∃ (L : Nat) (f : Nat → Value), L ≤ 340 ∧ tm ≤ L ∧ h[tx + 1]? = some (.inl (2, L, f)) ∧ ∀ j : Nat, j < tm → ∃ x : Int32, f j = .int x ∧ x &&& Int32.ofInt 255 = jn (T j)
def bXt (tx : Nat) (X : Nat → Nat → Int) (tm : Nat) (T : Nat → Int) : Prop := (tx = 13 ∨ tx = 15 ∨ tx = 17) ∧ X tx 1 = (tm : Int) ∧ tm ≤ cL (tx + 1) ∧ ∀ j : Nat, j < tm → jn (X (tx + 1) j) &&& Int32.ofInt 255 = jn (T j)
section JBTt
variable {D tm : Nat} {T : Nat → Int} {h : mj_H}
theorem rq_att {tx : Nat} {i : Int} (b : jBt tx tm T h) (ht : tm ≤ 340) (hT : ∀ j : Nat, j < tm → 0 ≤ T j ∧ T j ≤ 255) (hi : jr i) : mj_Ok (D + 1) 79 [.ref tx, .int (jn i)] h (fun r => r = (.inl (some (.int (jn (if 0 ≤ i ∧ i < (tm : Int) then T i.toNat else -1)))), h)) := by
  obtain ⟨b1, L, f, L1, L2, b2, b3⟩ := b
  have no : ¬ (0 ≤ i ∧ i < (tm : Int)) → mj_T D mj_m79 34 [some (.ref tx), some (.int (jn i))] [] h (fun r => r = (.inl (some (.int (jn (if 0 ≤ i ∧ i < (tm : Int) then T i.toNat else -1)))), h)) := fun hn => by
    rw [if_neg hn]
    refine mj_T.pl rfl rfl rfl rfl ?_
    exact mj_T.ret rfl rfl rfl rfl
  refine mj_Ok.of (M := mj_m79) (loc := [some (.ref tx), some (.int (jn i))]) rfl rfl rfl ?_
  refine mj_T.pl rfl rfl rfl rfl ?_
  refine mj_T.if0 (a := i) rfl hi (fun c => ?_) (fun c => ?_)
  · have c := of_decide_eq_true c
    exact no (by omega)
  have c := of_decide_eq_false c
  iterate 2 refine mj_T.pl rfl rfl rfl rfl ?_
  refine mj_T.gfl rfl b1 rfl ?_
  refine mj_T.icmp (a := i) (b := (tm : Int)) rfl hi ⟨by omega, by omega⟩ (fun c2 => ?_) (fun c2 => ?_)
  · have c2 := of_decide_eq_true c2
    exact no (by omega)
  have c2 := of_decide_eq_false c2
  iterate 2 refine mj_T.pl rfl rfl rfl rfl ?_
  refine mj_T.gfl rfl b1 rfl ?_
  refine mj_T.alen rfl b2 ?_
  refine mj_T.icmp (a := i) (b := (L : Int)) rfl hi ⟨by omega, by omega⟩ (fun c3 => ?_) (fun c3 => ?_)
  · have c3 := of_decide_eq_true c3
    omega
  refine mj_T.pl rfl rfl rfl rfl ?_
  refine mj_T.gfl rfl b1 rfl ?_
  refine mj_T.pl rfl rfl rfl rfl ?_
  obtain ⟨k, rfl⟩ := Int.eq_ofNat_of_zero_le (show 0 ≤ i by omega)
  obtain ⟨x, x1, x2⟩ := b3 k (by omega)
  have hin : mj_in (jn (k : Int)) L = true := by rw [jn_in hi]; exact decide_eq_true ⟨by omega, by omega⟩
  have hn : (jn (k : Int)).toNatClampNeg = k := by rw [jn_nat (by omega) hi]; rfl
  refine mj_T.step (pc' := 27) (loc' := [some (.ref tx), some (.int (jn (k : Int)))]) (st' := [.int x]) (h' := h) rfl rfl (by simp only [mj_step, b2, hin, hn, x1, true_and, if_true]) ?_
  refine mj_T.pl rfl rfl rfl rfl ?_
  refine mj_T.step (pc' := 31) (loc' := [some (.ref tx), some (.int (jn (k : Int)))]) (st' := [.int (jn (T k))]) (h' := h) rfl rfl (by simp only [mj_step, x2]) ?_
  refine mj_T.pl rfl rfl rfl rfl ?_
  refine mj_T.ret rfl rfl rfl ?_
  rw [if_pos ⟨by omega, by omega⟩]
  rfl
end JBTt
/-- the class while it reads: the benches and texts as in X0, the rows Y where Z says so, too great (t = 1), at the place a, with the error e -/
def rMt (g : mj_H) (n tx : Nat) (X0 : Nat → Nat → Int) (Z : Nat → Prop) (Y : Nat → Nat → Int) (t a e : Int) (h : mj_H) : Prop := ∃ (V : Nat → Int) (X : Nat → Nat → Int), jM g n V X h ∧ (by0 V ∧ DG X ∧ sBn X0 X) ∧ (X 455 1 = (tx : Int) ∧ X 455 2 = a ∧ X 455 3 = e ∧ X 455 4 = t) ∧ ∀ c, Z c → isRw c ∧ sml (Y c) ∧ ∀ j, j < 13 → X c j = Y c j
section RMBt
variable {D tm n tx : Nat} {T : Nat → Int} {g h h' : mj_H} {a e t : Int} {X0 Y : Nat → Nat → Int} {Z Z' : Nat → Prop}
variable {pc : Nat} {M : mj_M} {loc : mj_L} {st : List Value} {Q : mj_R → Prop} {r1 r2 r3 r4 r5 : Nat}
theorem rMt.rd (s : rMt g n tx X0 Z Y t a e h) : h[455]? = some (.inr (4, RFt tx a e t)) := by
  obtain ⟨V, X, m, _, ⟨x1, x2, x3, x4⟩, _⟩ := s
  have h1 := m.O 14 cq_456.2.2.2.2.1 (by decide)
  rw [h1]
  show some (Sum.inr (4, [Value.ref 19, .ref (X 455 1).toNat, .int (jn (X 455 2)), .int (jn (X 455 3)), .int (jn (X 455 4)), .ref 456, .ref 466, .ref 476])) = _
  rw [x1, x2, x3, x4]
  rfl
theorem rMt.jBt (s : rMt g n tx X0 Z Y t a e h) (b : bXt tx X0 tm T) : jBt tx tm T h := by
  obtain ⟨V, X, m, ⟨_, _, sb⟩, _, _⟩ := s
  obtain ⟨b0, b1, b2, b3⟩ := b
  have e13 := sb.2.2 tx (Or.inl ⟨by omega, by omega⟩)
  have e14 := sb.2.2 (tx + 1) (Or.inl ⟨by omega, by omega⟩)
  obtain ⟨k1, k2, k3⟩ := cq_tx b0
  refine ⟨?_, ?_⟩
  · rcases k1 with k1 | k1
    · have h1 := m.O 27 k1 (by decide)
      rw [h1]
      show some (Sum.inr (7, [Value.ref (tx + 1), .int (jn (X tx 1))])) = _
      rw [e13, b1]
    · have h1 := m.O 17 k1 (by decide)
      rw [h1]
      show some (Sum.inr (7, [Value.ref (tx + 1), .int (jn (X tx 1))])) = _
      rw [e13, b1]
  · have h1 := m.2.2 (tx + 1)
    rw [k2] at h1
    have h2 : h[tx + 1]? = some (.inl (2, cL (tx + 1), fun j => .int (jn (X (tx + 1) j)))) := h1
    exact ⟨cL (tx + 1), _, by omega, b2, h2, fun j hj => ⟨_, rfl, by rw [e14]; exact b3 j hj⟩⟩
theorem rMt.rv (s : rMt g n tx X0 Z Y t a e h) (hr : 1 ≤ r2) (hd : st.drop (r2 - 1) = .ref 455 :: st.drop r2) : ∀ m, mj_recv (.invokevirtual m) r2 4 st h = true := by
  intro m
  have h1 := s.rd
  match r2, hr, hd with
  | r2 + 1, _, hd =>
    simp only [mj_recv, hd, h1, decide_true]
theorem rt_g {f i : Nat} {v : Value} (s : rMt g n tx X0 Z Y t a e h) (hc : M.2.2.2.2.1 pc = some (.getfield f, 4, i, r3, r4, r5)) (hf : (RFt tx a e t)[i]? = some v) (k : mj_T D M (pc + 3) loc (v :: st) h Q) : mj_T D M pc loc (.ref 455 :: st) h Q := mj_T.gfl hc s.rd hf k
theorem rMt.upf (s : rMt g n tx X0 Z Y t a e h) {i : Nat} {b a' e' t' : Int} (hi : 2 ≤ i ∧ i ≤ 4) (h2 : a' = if i = 2 then b else a) (h3 : e' = if i = 3 then b else e) (h4 : t' = if i = 4 then b else t) : rMt g n tx X0 Z Y t' a' e' (h.set 455 (.inr (4, (RFt tx a e t).set i (.int (jn b))))) := by
  have hrd := s.rd
  obtain ⟨V, X, m, ⟨y1, y2, y3⟩, ⟨x1, x2, x3, x4⟩, yr⟩ := s
  have h1 := m.O 14 cq_456.2.2.2.2.1 (by decide)
  have hE : jMf X 14 455 = RFt tx a e t := by
    rw [h1] at hrd
    injection hrd with q
    injection q with q
    exact (Prod.mk.inj q).2
  have hm := m.setO (a := 455) (i := i) (k := 14) (v := b) cq_456.2.2.2.2.1 (by decide) (by
    have c : i = 2 ∨ i = 3 ∨ i = 4 := by omega
    rcases c with rfl | rfl | rfl
    · show [Value.ref 19, .ref (xup X 455 2 b 455 1).toNat, .int (jn (xup X 455 2 b 455 2)), .int (jn (xup X 455 2 b 455 3)), .int (jn (xup X 455 2 b 455 4)), .ref 456, .ref 466, .ref 476] = _
      rw [xup_at, xup_ne _ _ (Or.inr (by decide)), xup_ne _ _ (Or.inr (by decide)), xup_ne _ _ (Or.inr (by decide))]
      rfl
    · show [Value.ref 19, .ref (xup X 455 3 b 455 1).toNat, .int (jn (xup X 455 3 b 455 2)), .int (jn (xup X 455 3 b 455 3)), .int (jn (xup X 455 3 b 455 4)), .ref 456, .ref 466, .ref 476] = _
      rw [xup_at, xup_ne _ _ (Or.inr (by decide)), xup_ne _ _ (Or.inr (by decide)), xup_ne _ _ (Or.inr (by decide))]
      rfl
    · show [Value.ref 19, .ref (xup X 455 4 b 455 1).toNat, .int (jn (xup X 455 4 b 455 2)), .int (jn (xup X 455 4 b 455 3)), .int (jn (xup X 455 4 b 455 4)), .ref 456, .ref 466, .ref 476] = _
      rw [xup_at, xup_ne _ _ (Or.inr (by decide)), xup_ne _ _ (Or.inr (by decide)), xup_ne _ _ (Or.inr (by decide))]
      rfl)
  rw [hE] at hm
  have eo : ∀ c, c ≠ 455 → xup X 455 i b c = X c := fun c hc => funext fun j => xup_ne _ _ (Or.inl hc)
  refine ⟨V, _, hm, ⟨y1, y2.of (fun p kp => eo p (fun q => by rw [q, cq_456.2.2.2.2.1] at kp; omega)), ?_⟩, ?_, fun c hc => ⟨(yr c hc).1, (yr c hc).2.1, fun j hj => ?_⟩⟩
  · exact ⟨(congrFun (eo 1 (by decide)) 2).trans y3.1, (congrFun (eo 1 (by decide)) 3).trans y3.2.1, fun c hc => (eo c (by omega)).trans (y3.2.2 c hc)⟩
  · subst h2 h3 h4
    refine ⟨(xup_ne _ _ (Or.inr (by omega))).trans x1, ?_, ?_, ?_⟩
    · by_cases q : i = 2
      · subst q
        exact xup_at _ _ _ _
      · rw [if_neg q]
        exact (xup_ne _ _ (Or.inr (Ne.symm q))).trans x2
    · by_cases q : i = 3
      · subst q
        exact xup_at _ _ _ _
      · rw [if_neg q]
        exact (xup_ne _ _ (Or.inr (Ne.symm q))).trans x3
    · by_cases q : i = 4
      · subst q
        exact xup_at _ _ _ _
      · rw [if_neg q]
        exact (xup_ne _ _ (Or.inr (Ne.symm q))).trans x4
  · have := (yr c hc).1.ne
    by_cases q : c = 455
    · omega
    · rw [eo c q]
      exact (yr c hc).2.2 j hj
theorem rt_p2 {f : Nat} {b : Int} (s : rMt g n tx X0 Z Y t a e h) (hc : M.2.2.2.2.1 pc = some (.putfield f, 4, 2, 0, r4, r5)) (k : ∀ h', rMt g n tx X0 Z Y t b e h' → mj_T D M (pc + 3) loc st h' Q) : mj_T D M pc loc (.int (jn b) :: .ref 455 :: st) h Q := mj_T.pfl hc s.rd (Nat.le_of_ble_eq_true rfl) rfl (k _ (s.upf (i := 2) ⟨by decide, by decide⟩ rfl rfl rfl))
theorem rt_p3 {f : Nat} {b : Int} (s : rMt g n tx X0 Z Y t a e h) (hc : M.2.2.2.2.1 pc = some (.putfield f, 4, 3, 0, r4, r5)) (k : ∀ h', rMt g n tx X0 Z Y t a b h' → mj_T D M (pc + 3) loc st h' Q) : mj_T D M pc loc (.int (jn b) :: .ref 455 :: st) h Q := mj_T.pfl hc s.rd (Nat.le_of_ble_eq_true rfl) rfl (k _ (s.upf (i := 3) ⟨by decide, by decide⟩ rfl rfl rfl))
theorem rt_p4 {f : Nat} {b : Int} (hb : b = 0 ∨ b = 1) (s : rMt g n tx X0 Z Y t a e h) (hc : M.2.2.2.2.1 pc = some (.putfield f, 4, 4, 2, r4, r5)) (k : ∀ h', rMt g n tx X0 Z Y b a e h' → mj_T D M (pc + 3) loc st h' Q) : mj_T D M pc loc (.int (jn b) :: .ref 455 :: st) h Q := by
  refine mj_T.pfl hc s.rd (Nat.le_of_ble_eq_true rfl) ?_ (k _ (s.upf (i := 4) ⟨by decide, by decide⟩ rfl rfl rfl))
  rcases hb with q | q <;> subst q <;> rfl
theorem rMt.mono (s : rMt g n tx X0 Z Y t a e h) (hZ : ∀ c, Z' c → Z c) : rMt g n tx X0 Z' Y t a e h := by
  obtain ⟨V, X, m, y, x, yr⟩ := s
  exact ⟨V, X, m, y, x, fun c hc => yr c (hZ c hc)⟩
/-- a row is written -/
theorem rMt.row {V2 : Nat → Int} {X X2 : Nat → Nat → Int} {r : Nat} {w : Nat → Int} (m2 : jM g n V2 X2 h') (b2 : by0 V2) (d2 : DG X2) (y3 : sBn X0 X) (x : X 455 1 = (tx : Int) ∧ X 455 2 = a ∧ X 455 3 = e ∧ X 455 4 = t) (yr : ∀ c, Z c → isRw c ∧ sml (Y c) ∧ ∀ j, j < 13 → X c j = Y c j) (kr : isRw r) (hZ : ∀ c, Z' c → c = r ∨ Z c) (ho : ∀ c, c ≠ r → c = 1 ∨ (2 ≤ c ∧ c < 19) ∨ 455 ≤ c → X2 c = X c) (hw : sml w) (hr : ∀ j, j < 13 → X2 r j = w j) : rMt g n tx X0 Z' (rwu Y r w) t a e h' := by
  have hk := kr.ne
  have e455 := ho 455 (by omega) (Or.inr (Or.inr (by decide)))
  refine ⟨V2, X2, m2, ⟨b2, d2, ?_⟩, by rw [e455]; exact x, fun c hc => ?_⟩
  · have e1 := ho 1 (by omega) (Or.inl rfl)
    exact ⟨by rw [e1]; exact y3.1, by rw [e1]; exact y3.2.1, fun c hc => (ho c (by omega) (by omega)).trans (y3.2.2 c hc)⟩
  · by_cases q : c = r
    · subst q
      rw [rwu_at]
      exact ⟨kr, hw, hr⟩
    · rcases hZ c hc with z | z
      · exact absurd z q
      · have hn := (yr c z).1.ne
        rw [rwu_ne _ _ q, ho c q (by omega)]
        exact yr c z
/-- a row is lost -/
theorem rMt.lose {V2 : Nat → Int} {X X2 : Nat → Nat → Int} {r : Nat} (m2 : jM g n V2 X2 h') (b2 : by0 V2) (d2 : DG X2) (y3 : sBn X0 X) (x : X 455 1 = (tx : Int) ∧ X 455 2 = a ∧ X 455 3 = e ∧ X 455 4 = t) (yr : ∀ c, Z c → isRw c ∧ sml (Y c) ∧ ∀ j, j < 13 → X c j = Y c j) (kr : isRw r) (ho : ∀ c, c ≠ r → c = 1 ∨ (2 ≤ c ∧ c < 19) ∨ 455 ≤ c → X2 c = X c) : rMt g n tx X0 (fun c => c ≠ r ∧ Z c) Y t a e h' := by
  have hk := kr.ne
  have e455 := ho 455 (by omega) (Or.inr (Or.inr (by decide)))
  refine ⟨V2, X2, m2, ⟨b2, d2, ?_⟩, by rw [e455]; exact x, fun c hc => ?_⟩
  · have e1 := ho 1 (by omega) (Or.inl rfl)
    exact ⟨by rw [e1]; exact y3.1, by rw [e1]; exact y3.2.1, fun c hc => (ho c (by omega) (by omega)).trans (y3.2.2 c hc)⟩
  · have hn := (yr c hc.2).1.ne
    rw [ho c hc.1 (by omega)]
    exact yr c hc.2
theorem rt_last {i v : Int} {r : Nat} (s : rMt g n tx X0 Z Y t a e h) (zr : Z r) (hc : M.2.2.2.2.1 pc = some (.lastore, r1, r2, r3, r4, r5)) (h0 : 0 ≤ i ∧ i < 13) (hv : v.natAbs ≤ 999999999999999999) (k : ∀ h', rMt g n tx X0 Z (rwu Y r (fun j => if j = i.toNat then v else Y r j)) t a e h' → mj_T D M (pc + 1) loc st h' Q) : mj_T D M pc loc (.long (jl v) :: .int (jn i) :: .ref r :: st) h Q := by
  obtain ⟨V, X, m, ⟨y1, y2, y3⟩, x, yr⟩ := s
  have kr := (yr r zr).1
  have hk := kr.ne
  refine mT_last m kr.k hc h0 (fun h2 m2 => k h2 ?_)
  have eo : ∀ c, c ≠ r → xup X r i.toNat v c = X c := fun c hc => funext fun j => xup_ne _ _ (Or.inl hc)
  refine rMt.row m2 y1 (y2.of (fun p kp => eo p (fun q => by have := kr.k; rw [q] at kp; omega))) y3 x yr kr (fun c hc => Or.inr hc) (fun c hc _ => eo c hc) (fun j hj => ?_) (fun j hj => ?_)
  · show (if j = i.toNat then v else Y r j).natAbs ≤ _
    split
    · exact hv
    · exact (yr r zr).2.1 j hj
  · show xup X r i.toNat v r j = if j = i.toNat then v else Y r j
    by_cases q : j = i.toNat
    · rw [if_pos q, q]
      exact xup_at _ _ _ _
    · rw [if_neg q, xup_ne _ _ (Or.inr q)]
      exact (yr r zr).2.2 j hj
theorem rt_165 {r : Nat} (s : rMt g n tx X0 Z Y t a e h) (kr : isRw r) (hZ : ∀ c, Z' c → c = r ∨ Z c) : mj_Ok (D + 1) 165 [.ref r] h (fun z => ∃ h2, rMt g n tx X0 Z' (rwu Y r (fun _ => 0)) t a e h2 ∧ z = (.inl none, h2)) := by
  obtain ⟨V, X, m, ⟨y1, y2, y3⟩, x, yr⟩ := s
  have hk := kr.ne
  refine (mS_clear (D := D) m kr.k).to (fun z hz => ?_)
  obtain ⟨h2, m2, rfl⟩ := hz
  have eo : ∀ c, c ≠ r → xfl X r (fun _ => 0) 13 c = X c := fun c hc => xfl_off _ _ _ hc
  exact ⟨h2, rMt.row m2 y1 (y2.of (fun p kp => eo p (fun q => by have := kr.k; rw [q] at kp; omega))) y3 x yr kr hZ (fun c hc _ => eo c hc) sml_0 (fun j hj => xfl_at _ _ _ hj), rfl⟩
theorem rt_164 {r q : Nat} (s : rMt g n tx X0 Z Y t a e h) (zq : Z q) (kr : isRw r) (hZ : ∀ c, Z' c → c = r ∨ Z c) : mj_Ok (D + 1) 164 [.ref q, .ref r] h (fun z => ∃ h2, rMt g n tx X0 Z' (rwu Y r (Y q)) t a e h2 ∧ z = (.inl none, h2)) := by
  obtain ⟨V, X, m, ⟨y1, y2, y3⟩, x, yr⟩ := s
  have kq := (yr q zq).1
  have hk := kr.ne
  refine (mS_copy (D := D) m kq.k kr.k).to (fun z hz => ?_)
  obtain ⟨h2, m2, rfl⟩ := hz
  have eo : ∀ c, c ≠ r → xfl X r (X q) 13 c = X c := fun c hc => xfl_off _ _ _ hc
  exact ⟨h2, rMt.row m2 y1 (y2.of (fun p kp => eo p (fun q => by have := kr.k; rw [q] at kp; omega))) y3 x yr kr hZ (fun c hc _ => eo c hc) (yr q zq).2.1 (fun j hj => (xfl_at _ _ _ hj).trans ((yr q zq).2.2 j hj)), rfl⟩
theorem rt_164l {r q : Nat} (s : rMt g n tx X0 Z Y t a e h) (kq : isRw q) (kr : isRw r) : mj_Ok (D + 1) 164 [.ref q, .ref r] h (fun z => ∃ h2, rMt g n tx X0 (fun _ => False) Y t a e h2 ∧ z = (.inl none, h2)) := by
  obtain ⟨V, X, m, ⟨y1, y2, y3⟩, x, yr⟩ := s
  have hk := kr.ne
  refine (mS_copy (D := D) m kq.k kr.k).to (fun z hz => ?_)
  obtain ⟨h2, m2, rfl⟩ := hz
  have eo : ∀ c, c ≠ r → xfl X r (X q) 13 c = X c := fun c hc => xfl_off _ _ _ hc
  have z := rMt.lose m2 y1 (y2.of (fun p kp => eo p (fun q => by have := kr.k; rw [q] at kp; omega))) y3 x yr kr (fun c hc _ => eo c hc)
  exact ⟨h2, z.mono (fun c hc => hc.elim), rfl⟩
/-- what an operation leaves in a row: its result, or nothing is told -/
def rOt (g : mj_H) (n tx : Nat) (X0 : Nat → Nat → Int) (Z : Nat → Prop) (Y : Nat → Nat → Int) (r : Nat) (ok : Prop) (w : Nat → Int) (t a e : Int) (z : mj_R) : Prop := ∃ h2, (ok ∧ rMt g n tx X0 Z (rwu Y r w) t a e h2 ∧ z = (.inl (some (.int (jn 1))), h2)) ∨ (¬ ok ∧ rMt g n tx X0 (fun c => c ≠ r ∧ Z c) Y t a e h2 ∧ z = (.inl (some (.int (jn 0))), h2))
theorem rt_167 {p q : Nat} {f : Int} (s : rMt g n tx X0 Z Y t a e h) (zp : Z p) (zq : Z q) (hf : f = 1 ∨ f = -1) : mj_Ok (D + 2) 167 [.ref p, .ref q, .int (jn f), .ref p] h (rOt g n tx X0 Z Y p (sml (fun j => Y p j + f * Y q j)) (fun j => Y p j + f * Y q j) t a e) := by
  obtain ⟨V, X, m, ⟨y1, y2, y3⟩, x, yr⟩ := s
  have kp := (yr p zp).1
  have hk := kp.ne
  have sm : ∀ c, Z c → sml (X c) := fun c hc => sml_cg (fun j hj => ((yr c hc).2.2 j hj).symm) (yr c hc).2.1
  have ee : ∀ j, j < 13 → X p j + f * X q j = Y p j + f * Y q j := fun j hj => by rw [(yr p zp).2.2 j hj, (yr q zq).2.2 j hj]
  refine (mS_sum (D := D) m kp.k (yr q zq).1.k kp.k (sm p zp) (sm q zq) hf).to (fun z hz => ?_)
  obtain ⟨h2, m2, hz⟩ := hz
  have eo : ∀ c, c ≠ p → xfl X p (fun e => X p e + f * X q e) 13 c = X c := fun c hc => xfl_off _ _ _ hc
  have dd := y2.of (fun c kc => eo c (fun w => by have := kp.k; rw [w] at kc; omega))
  rcases hz with ⟨z1, rfl⟩ | ⟨z1, rfl⟩
  · have z2 := sml_cg ee z1
    exact ⟨h2, Or.inl ⟨z2, rMt.row m2 y1 dd y3 x yr kp (fun c hc => Or.inr hc) (fun c hc _ => eo c hc) z2 (fun j hj => (xfl_at _ _ _ hj).trans (ee j hj)), rfl⟩⟩
  · exact ⟨h2, Or.inr ⟨fun w => z1 (sml_cg (fun j hj => (ee j hj).symm) w), rMt.lose m2 y1 dd y3 x yr kp (fun c hc _ => eo c hc), rfl⟩⟩
theorem rt_11 {p q : Nat} (s : rMt g n tx X0 Z Y t a e h) (zp : Z p) (zq : Z q) : mj_Ok (D + 4) 11 [.ref 19, .ref p, .ref q, .ref p] h (rOt g n tx X0 Z Y p (fit13 (pz_mul (rw13 (Y p)) (rw13 (Y q)))) (pz_mul (rw13 (Y p)) (rw13 (Y q))) t a e) := by
  obtain ⟨V, X, m, ⟨y1, y2, y3⟩, x, yr⟩ := s
  have kp := (yr p zp).1
  have hk := kp.ne
  have sm : ∀ c, Z c → sml (X c) := fun c hc => sml_cg (fun j hj => ((yr c hc).2.2 j hj).symm) (yr c hc).2.1
  refine (mD_mulRows (D := D) m kp.k (yr q zq).1.k (sm p zp) (sm q zq) kp.k).to (fun z hz => ?_)
  rw [rw13_cg (yr p zp).2.2, rw13_cg (yr q zq).2.2] at hz
  obtain ⟨V2, X2, h2, m2, df, xf, hz⟩ := hz
  have eo : ∀ c, c ≠ p → c = 1 ∨ (2 ≤ c ∧ c < 19) ∨ 455 ≤ c → X2 c = X c := fun c hc hh => xf.1 c (by omega) (by omega) (by omega) (by omega) hc
  rcases hz with ⟨z1, rfl, hx⟩ | ⟨z1, rfl⟩
  · exact ⟨h2, Or.inl ⟨z1, rMt.row m2 (y1.dF df) (DG_xFr kp y2 xf) y3 x yr kp (fun c hc => Or.inr hc) eo z1.1 hx, rfl⟩⟩
  · exact ⟨h2, Or.inr ⟨z1, rMt.lose m2 (y1.dF df) (DG_xFr kp y2 xf) y3 x yr kp eo, rfl⟩⟩
theorem rt_12 {p z : Nat} (s : rMt g n tx X0 Z Y t a e h) (zp : Z p) (hz : z ≤ 12) : mj_Ok (D + 4) 12 [.ref 19, .ref p, .int (jn (z : Int)), .ref p] h (rOt g n tx X0 Z Y p (fit13 (pw (rw13 (Y p)) z)) (pw (rw13 (Y p)) z) t a e) := by
  obtain ⟨V, X, m, ⟨y1, y2, y3⟩, x, yr⟩ := s
  have kp := (yr p zp).1
  have hk := kp.ne
  have sm : ∀ c, Z c → sml (X c) := fun c hc => sml_cg (fun j hj => ((yr c hc).2.2 j hj).symm) (yr c hc).2.1
  refine (mD_raise (D := D) m kp.k kp.k (sm p zp) (e := z) hz (y1.p cq_d80)).to (fun z hz => ?_)
  rw [rw13_cg (yr p zp).2.2] at hz
  obtain ⟨V2, X2, h2, m2, df, xf, hz⟩ := hz
  have eo : ∀ c, c ≠ p → c = 1 ∨ (2 ≤ c ∧ c < 19) ∨ 455 ≤ c → X2 c = X c := fun c hc hh => xf.1 c (by omega) (by omega) (by omega) (by omega) hc
  rcases hz with ⟨z1, rfl, hx⟩ | ⟨z1, rfl⟩
  · exact ⟨h2, Or.inl ⟨z1, rMt.row m2 (y1.dF df) (DG_xFr kp y2 xf) y3 x yr kp (fun c hc => Or.inr hc) eo z1.1 hx, rfl⟩⟩
  · exact ⟨h2, Or.inr ⟨z1, rMt.lose m2 (y1.dF df) (DG_xFr kp y2 xf) y3 x yr kp eo, rfl⟩⟩
theorem rt_48 {b k : Nat} (s : rMt g n tx X0 Z Y t a e h) (hb : b = 456 ∨ b = 466) (hk : k ≤ 8) : mj_Ok (D + 1) 48 [.ref b, .int (jn (k : Int))] h (fun z => z = (.inl (some (.ref (b + 1 + k))), h)) := by
  obtain ⟨V, X, m, _, _, _⟩ := s
  have kb : cK b = 6 ∧ cL b = 9 := by
    rcases hb with rfl | rfl
    · exact ⟨cq_456.1, cq_456.2.1⟩
    · exact ⟨cq_456.2.2.1, cq_456.2.2.2.1⟩
  refine mj_Ok.of (M := mj_m48) (loc := [some (.ref b), some (.int (jn (k : Int)))]) rfl rfl rfl ?_
  iterate 2 refine mj_T.pl rfl rfl rfl rfl ?_
  refine mj_T.if0 (a := (k : Int)) rfl ⟨by omega, by omega⟩ (fun c => ?_) (fun _ => ?_)
  · simp only [jc, decide_eq_true_eq] at c
    omega
  iterate 2 refine mj_T.pl rfl rfl rfl rfl ?_
  refine mT_alen m 6 kb.1 (by decide) rfl ?_
  refine mj_T.icmp (a := (k : Int)) (b := ((cL b : Nat) : Int)) rfl ⟨by omega, by omega⟩ ⟨by omega, by omega⟩ (fun c => ?_) (fun _ => ?_)
  · simp only [jc, Bool.not_eq_true', Bool.not_eq_false', decide_eq_true_eq, decide_eq_false_iff_not] at c
    have := kb.2
    omega
  iterate 2 refine mj_T.pl rfl rfl rfl rfl ?_
  refine mT_aald m 6 kb.1 (by decide) rfl rfl (by omega) ⟨by omega, by omega⟩ ?_
  exact mj_T.ret rfl rfl rfl (by
    rw [Int.toNat_natCast]
    rfl)
end RMBt
