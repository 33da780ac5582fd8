/-! The class's reader over the memory: rows of values. -/
/-- the reader's rows -/
def isRw (c : Nat) : Prop := (457 ≤ c ∧ c ≤ 465) ∨ (467 ≤ c ∧ c ≤ 475) ∨ c = 476
theorem cq_rw : ((List.range 563).all (fun c => !(decide ((457 ≤ c ∧ c ≤ 465) ∨ (467 ≤ c ∧ c ≤ 475) ∨ c = 476)) || decide (cK c = 2))) = true := by decide +kernel
theorem isRw.k {c : Nat} (h : isRw c) : cK c = 2 := by
  have h1 := jall cq_rw (show c < 563 by unfold isRw at h; omega)
  simp only [Bool.or_eq_true, Bool.not_eq_true', decide_eq_false_iff_not, decide_eq_true_eq] at h1
  rcases h1 with h1 | h1
  · exact absurd h h1
  · exact h1
theorem isRw.s {k : Nat} (h : k ≤ 8) : isRw (457 + k) := Or.inl ⟨by omega, by omega⟩
theorem isRw.p {k : Nat} (h : k ≤ 8) : isRw (467 + k) := Or.inr (Or.inl ⟨by omega, by omega⟩)
theorem isRw.f : isRw 476 := Or.inr (Or.inr rfl)
theorem isRw.ne {c : Nat} (h : isRw c) : 457 ≤ c ∧ c ≤ 476 := by
  unfold isRw at h
  omega
/-- a row gets other numbers -/
def rwu (Y : Nat → Nat → Int) (r : Nat) (w : Nat → Int) : Nat → Nat → Int := fun c => if c = r then w else Y c
theorem rwu_at (Y : Nat → Nat → Int) (r : Nat) (w : Nat → Int) : rwu Y r w r = w := if_pos rfl
theorem rwu_ne (Y : Nat → Nat → Int) {r c : Nat} (w : Nat → Int) (h : c ≠ r) : rwu Y r w c = Y c := if_neg h
theorem cq_456 : cK 456 = 6 ∧ cL 456 = 9 ∧ cK 466 = 6 ∧ cL 466 = 9 ∧ cK 455 = 14 ∧ cK 19 = 11 ∧ cL 14 = 200 ∧ cK 13 = 27 ∧ cK 14 = 3 := by decide +kernel
/-- the buffer's text -/
def bX (X : Nat → Nat → Int) (tm : Nat) (T : Nat → Int) : Prop := X 13 1 = (tm : Int) ∧ ∀ j : Nat, j < tm → Value.int (jn (X 14 j)) = jbv (T j)
/-- the class while it reads: the benches and texts as in X0, the rows Y where Z says so, too great (t = 1), at the place a, with the error e -/
def rM (g : mj_H) (n : Nat) (X0 : Nat → Nat → Int) (Z : Nat → Prop) (Y : Nat → Nat → Int) (t a e : Int) (h : mj_H) : Prop := ∃ (V : Nat → Int) (X : Nat → Nat → Int), jM g n V X h ∧ (by0 V ∧ DG X ∧ sBn X0 X) ∧ (X 455 1 = 13 ∧ X 455 2 = a ∧ X 455 3 = e ∧ X 455 4 = t) ∧ ∀ c, Z c → isRw c ∧ sml (Y c) ∧ ∀ j, j < 13 → X c j = Y c j
/-- the rows that hold something, by the depth -/
def zkS (D c : Nat) : Prop := (457 ≤ c ∧ c < 457 + D) ∨ (467 ≤ c ∧ c < 467 + D)
def zkP (D c : Nat) : Prop := (457 ≤ c ∧ c ≤ 457 + D) ∨ (467 ≤ c ∧ c < 467 + D)
def zkF (D c : Nat) : Prop := (457 ≤ c ∧ c ≤ 457 + D) ∨ (467 ≤ c ∧ c ≤ 467 + D)
def zkG (D c : Nat) : Prop := zkF D c ∨ c = 476
section RMB
variable {D tm n : Nat} {T : Nat → Int} {g h h' : mj_H} {a e t : Int} {X0 Y : Nat → Nat → Int} {Z Z' : Nat → Prop}
variable {pc : Nat} {M : mj_M} {loc : mj_L} {st : List Value} {Q : mj_R → Prop} {r1 r2 r3 r4 r5 : Nat}
theorem rM.rd (s : rM g n X0 Z Y t a e h) : h[455]? = some (.inr (4, RF a e t)) := by
  obtain ⟨V, X, m, _, ⟨x1, x2, x3, x4⟩, _⟩ := s
  have h1 := m.O 14 cq_456.2.2.2.2.1 (by decide)
  rw [h1]
  show some (Sum.inr (4, [Value.ref 19, .ref (X 455 1).toNat, .int (jn (X 455 2)), .int (jn (X 455 3)), .int (jn (X 455 4)), .ref 456, .ref 466, .ref 476])) = _
  rw [x1, x2, x3, x4]
  rfl
theorem rM.jBuf (s : rM g n X0 Z Y t a e h) (b : bX X0 tm T) : jBuf tm T h := by
  obtain ⟨V, X, m, ⟨_, _, sb⟩, _, _⟩ := s
  have e13 := sb.2.2 13 (Or.inl ⟨by decide, by decide⟩)
  have e14 := sb.2.2 14 (Or.inl ⟨by decide, by decide⟩)
  refine ⟨?_, ?_⟩
  · have h1 := m.O 27 cq_456.2.2.2.2.2.2.2.1 (by decide)
    rw [h1]
    show some (Sum.inr (7, [Value.ref (13 + 1), .int (jn (X 13 1))])) = _
    rw [e13, b.1]
  · have h1 := m.2.2 14
    rw [cq_456.2.2.2.2.2.2.2.2] at h1
    have h2 : h[14]? = some (.inl (2, cL 14, fun j => .int (jn (X 14 j)))) := h1
    rw [cq_456.2.2.2.2.2.2.1] at h2
    exact ⟨_, h2, fun j hj => by rw [e14]; exact b.2 j hj⟩
theorem rM.rv (s : rM g n X0 Z Y t a e h) (hr : 1 ≤ r2) (hd : st.drop (r2 - 1) = .ref 455 :: st.drop r2) : ∀ m, mj_recv (.invokevirtual m) r2 4 st h = true := by
  intro m
  have h1 := s.rd
  match r2, hr, hd with
  | r2 + 1, _, hd =>
    simp only [mj_recv, hd, h1, decide_true]
theorem rm_g {f i : Nat} {v : Value} (s : rM g n X0 Z Y t a e h) (hc : M.2.2.2.2.1 pc = some (.getfield f, 4, i, r3, r4, r5)) (hf : (RF a e t)[i]? = some v) (k : mj_T D M (pc + 3) loc (v :: st) h Q) : mj_T D M pc loc (.ref 455 :: st) h Q := mj_T.gfl hc s.rd hf k
theorem rM.upf (s : rM g n X0 Z Y t a e h) {i : Nat} {b a' e' t' : Int} (hi : 2 ≤ i ∧ i ≤ 4) (h2 : a' = if i = 2 then b else a) (h3 : e' = if i = 3 then b else e) (h4 : t' = if i = 4 then b else t) : rM g n X0 Z Y t' a' e' (h.set 455 (.inr (4, (RF a e t).set i (.int (jn b))))) := by
  have hrd := s.rd
  obtain ⟨V, X, m, ⟨y1, y2, y3⟩, ⟨x1, x2, x3, x4⟩, yr⟩ := s
  have h1 := m.O 14 cq_456.2.2.2.2.1 (by decide)
  have hE : jMf X 14 455 = RF a e t := by
    rw [h1] at hrd
    injection hrd with q
    injection q with q
    exact (Prod.mk.inj q).2
  have hm := m.setO (a := 455) (i := i) (k := 14) (v := b) cq_456.2.2.2.2.1 (by decide) (by
    have c : i = 2 ∨ i = 3 ∨ i = 4 := by omega
    rcases c with rfl | rfl | rfl
    · show [Value.ref 19, .ref (xup X 455 2 b 455 1).toNat, .int (jn (xup X 455 2 b 455 2)), .int (jn (xup X 455 2 b 455 3)), .int (jn (xup X 455 2 b 455 4)), .ref 456, .ref 466, .ref 476] = _
      rw [xup_at, xup_ne _ _ (Or.inr (by decide)), xup_ne _ _ (Or.inr (by decide)), xup_ne _ _ (Or.inr (by decide))]
      rfl
    · show [Value.ref 19, .ref (xup X 455 3 b 455 1).toNat, .int (jn (xup X 455 3 b 455 2)), .int (jn (xup X 455 3 b 455 3)), .int (jn (xup X 455 3 b 455 4)), .ref 456, .ref 466, .ref 476] = _
      rw [xup_at, xup_ne _ _ (Or.inr (by decide)), xup_ne _ _ (Or.inr (by decide)), xup_ne _ _ (Or.inr (by decide))]
      rfl
    · show [Value.ref 19, .ref (xup X 455 4 b 455 1).toNat, .int (jn (xup X 455 4 b 455 2)), .int (jn (xup X 455 4 b 455 3)), .int (jn (xup X 455 4 b 455 4)), .ref 456, .ref 466, .ref 476] = _
      rw [xup_at, xup_ne _ _ (Or.inr (by decide)), xup_ne _ _ (Or.inr (by decide)), xup_ne _ _ (Or.inr (by decide))]
      rfl)
  rw [hE] at hm
  have eo : ∀ c, c ≠ 455 → xup X 455 i b c = X c := fun c hc => funext fun j => xup_ne _ _ (Or.inl hc)
  refine ⟨V, _, hm, ⟨y1, y2.of (fun p kp => eo p (fun q => by rw [q, cq_456.2.2.2.2.1] at kp; omega)), ?_⟩, ?_, fun c hc => ⟨(yr c hc).1, (yr c hc).2.1, fun j hj => ?_⟩⟩
  · exact ⟨(congrFun (eo 1 (by decide)) 2).trans y3.1, (congrFun (eo 1 (by decide)) 3).trans y3.2.1, fun c hc => (eo c (by omega)).trans (y3.2.2 c hc)⟩
  · subst h2 h3 h4
    refine ⟨(xup_ne _ _ (Or.inr (by omega))).trans x1, ?_, ?_, ?_⟩
    · by_cases q : i = 2
      · subst q
        exact xup_at _ _ _ _
      · rw [if_neg q]
        exact (xup_ne _ _ (Or.inr (Ne.symm q))).trans x2
    · by_cases q : i = 3
      · subst q
        exact xup_at _ _ _ _
      · rw [if_neg q]
        exact (xup_ne _ _ (Or.inr (Ne.symm q))).trans x3
    · by_cases q : i = 4
      · subst q
        exact xup_at _ _ _ _
      · rw [if_neg q]
        exact (xup_ne _ _ (Or.inr (Ne.symm q))).trans x4
  · have := (yr c hc).1.ne
    by_cases q : c = 455
    · omega
    · rw [eo c q]
      exact (yr c hc).2.2 j hj
theorem rm_p2 {f : Nat} {b : Int} (s : rM g n X0 Z Y t a e h) (hc : M.2.2.2.2.1 pc = some (.putfield f, 4, 2, 0, r4, r5)) (k : ∀ h', rM g n X0 Z Y t b e h' → mj_T D M (pc + 3) loc st h' Q) : mj_T D M pc loc (.int (jn b) :: .ref 455 :: st) h Q := mj_T.pfl hc s.rd (Nat.le_of_ble_eq_true rfl) rfl (k _ (s.upf (i := 2) ⟨by decide, by decide⟩ rfl rfl rfl))
theorem rm_p3 {f : Nat} {b : Int} (s : rM g n X0 Z Y t a e h) (hc : M.2.2.2.2.1 pc = some (.putfield f, 4, 3, 0, r4, r5)) (k : ∀ h', rM g n X0 Z Y t a b h' → mj_T D M (pc + 3) loc st h' Q) : mj_T D M pc loc (.int (jn b) :: .ref 455 :: st) h Q := mj_T.pfl hc s.rd (Nat.le_of_ble_eq_true rfl) rfl (k _ (s.upf (i := 3) ⟨by decide, by decide⟩ rfl rfl rfl))
theorem rm_p4 {f : Nat} {b : Int} (hb : b = 0 ∨ b = 1) (s : rM g n X0 Z Y t a e h) (hc : M.2.2.2.2.1 pc = some (.putfield f, 4, 4, 2, r4, r5)) (k : ∀ h', rM g n X0 Z Y b a e h' → mj_T D M (pc + 3) loc st h' Q) : mj_T D M pc loc (.int (jn b) :: .ref 455 :: st) h Q := by
  refine mj_T.pfl hc s.rd (Nat.le_of_ble_eq_true rfl) ?_ (k _ (s.upf (i := 4) ⟨by decide, by decide⟩ rfl rfl rfl))
  rcases hb with q | q <;> subst q <;> rfl
theorem rM.mono (s : rM g n X0 Z Y t a e h) (hZ : ∀ c, Z' c → Z c) : rM g n X0 Z' Y t a e h := by
  obtain ⟨V, X, m, y, x, yr⟩ := s
  exact ⟨V, X, m, y, x, fun c hc => yr c (hZ c hc)⟩
/-- a row is written -/
theorem rM.row {V2 : Nat → Int} {X X2 : Nat → Nat → Int} {r : Nat} {w : Nat → Int} (m2 : jM g n V2 X2 h') (b2 : by0 V2) (d2 : DG X2) (y3 : sBn X0 X) (x : X 455 1 = 13 ∧ X 455 2 = a ∧ X 455 3 = e ∧ X 455 4 = t) (yr : ∀ c, Z c → isRw c ∧ sml (Y c) ∧ ∀ j, j < 13 → X c j = Y c j) (kr : isRw r) (hZ : ∀ c, Z' c → c = r ∨ Z c) (ho : ∀ c, c ≠ r → c = 1 ∨ (2 ≤ c ∧ c < 19) ∨ 455 ≤ c → X2 c = X c) (hw : sml w) (hr : ∀ j, j < 13 → X2 r j = w j) : rM g n X0 Z' (rwu Y r w) t a e h' := by
  have hk := kr.ne
  have e455 := ho 455 (by omega) (Or.inr (Or.inr (by decide)))
  refine ⟨V2, X2, m2, ⟨b2, d2, ?_⟩, by rw [e455]; exact x, fun c hc => ?_⟩
  · have e1 := ho 1 (by omega) (Or.inl rfl)
    exact ⟨by rw [e1]; exact y3.1, by rw [e1]; exact y3.2.1, fun c hc => (ho c (by omega) (by omega)).trans (y3.2.2 c hc)⟩
  · by_cases q : c = r
    · subst q
      rw [rwu_at]
      exact ⟨kr, hw, hr⟩
    · rcases hZ c hc with z | z
      · exact absurd z q
      · have hn := (yr c z).1.ne
        rw [rwu_ne _ _ q, ho c q (by omega)]
        exact yr c z
/-- a row is lost -/
theorem rM.lose {V2 : Nat → Int} {X X2 : Nat → Nat → Int} {r : Nat} (m2 : jM g n V2 X2 h') (b2 : by0 V2) (d2 : DG X2) (y3 : sBn X0 X) (x : X 455 1 = 13 ∧ X 455 2 = a ∧ X 455 3 = e ∧ X 455 4 = t) (yr : ∀ c, Z c → isRw c ∧ sml (Y c) ∧ ∀ j, j < 13 → X c j = Y c j) (kr : isRw r) (ho : ∀ c, c ≠ r → c = 1 ∨ (2 ≤ c ∧ c < 19) ∨ 455 ≤ c → X2 c = X c) : rM g n X0 (fun c => c ≠ r ∧ Z c) Y t a e h' := by
  have hk := kr.ne
  have e455 := ho 455 (by omega) (Or.inr (Or.inr (by decide)))
  refine ⟨V2, X2, m2, ⟨b2, d2, ?_⟩, by rw [e455]; exact x, fun c hc => ?_⟩
  · have e1 := ho 1 (by omega) (Or.inl rfl)
    exact ⟨by rw [e1]; exact y3.1, by rw [e1]; exact y3.2.1, fun c hc => (ho c (by omega) (by omega)).trans (y3.2.2 c hc)⟩
  · have hn := (yr c hc.2).1.ne
    rw [ho c hc.1 (by omega)]
    exact yr c hc.2
theorem rm_last {i v : Int} {r : Nat} (s : rM g n X0 Z Y t a e h) (zr : Z r) (hc : M.2.2.2.2.1 pc = some (.lastore, r1, r2, r3, r4, r5)) (h0 : 0 ≤ i ∧ i < 13) (hv : v.natAbs ≤ 999999999999999999) (k : ∀ h', rM g n X0 Z (rwu Y r (fun j => if j = i.toNat then v else Y r j)) t a e h' → mj_T D M (pc + 1) loc st h' Q) : mj_T D M pc loc (.long (jl v) :: .int (jn i) :: .ref r :: st) h Q := by
  obtain ⟨V, X, m, ⟨y1, y2, y3⟩, x, yr⟩ := s
  have kr := (yr r zr).1
  have hk := kr.ne
  refine mT_last m kr.k hc h0 (fun h2 m2 => k h2 ?_)
  have eo : ∀ c, c ≠ r → xup X r i.toNat v c = X c := fun c hc => funext fun j => xup_ne _ _ (Or.inl hc)
  refine rM.row m2 y1 (y2.of (fun p kp => eo p (fun q => by have := kr.k; rw [q] at kp; omega))) y3 x yr kr (fun c hc => Or.inr hc) (fun c hc _ => eo c hc) (fun j hj => ?_) (fun j hj => ?_)
  · show (if j = i.toNat then v else Y r j).natAbs ≤ _
    split
    · exact hv
    · exact (yr r zr).2.1 j hj
  · show xup X r i.toNat v r j = if j = i.toNat then v else Y r j
    by_cases q : j = i.toNat
    · rw [if_pos q, q]
      exact xup_at _ _ _ _
    · rw [if_neg q, xup_ne _ _ (Or.inr q)]
      exact (yr r zr).2.2 j hj
theorem sml_0 : sml (fun _ => 0) := fun _ _ => by
  show (0 : Int).natAbs ≤ _
  decide
theorem rm_165 {r : Nat} (s : rM g n X0 Z Y t a e h) (kr : isRw r) (hZ : ∀ c, Z' c → c = r ∨ Z c) : mj_Ok (D + 1) 165 [.ref r] h (fun z => ∃ h2, rM g n X0 Z' (rwu Y r (fun _ => 0)) t a e h2 ∧ z = (.inl none, h2)) := by
  obtain ⟨V, X, m, ⟨y1, y2, y3⟩, x, yr⟩ := s
  have hk := kr.ne
  refine (mS_clear (D := D) m kr.k).to (fun z hz => ?_)
  obtain ⟨h2, m2, rfl⟩ := hz
  have eo : ∀ c, c ≠ r → xfl X r (fun _ => 0) 13 c = X c := fun c hc => xfl_off _ _ _ hc
  exact ⟨h2, rM.row m2 y1 (y2.of (fun p kp => eo p (fun q => by have := kr.k; rw [q] at kp; omega))) y3 x yr kr hZ (fun c hc _ => eo c hc) sml_0 (fun j hj => xfl_at _ _ _ hj), rfl⟩
theorem rm_164 {r q : Nat} (s : rM g n X0 Z Y t a e h) (zq : Z q) (kr : isRw r) (hZ : ∀ c, Z' c → c = r ∨ Z c) : mj_Ok (D + 1) 164 [.ref q, .ref r] h (fun z => ∃ h2, rM g n X0 Z' (rwu Y r (Y q)) t a e h2 ∧ z = (.inl none, h2)) := by
  obtain ⟨V, X, m, ⟨y1, y2, y3⟩, x, yr⟩ := s
  have kq := (yr q zq).1
  have hk := kr.ne
  refine (mS_copy (D := D) m kq.k kr.k).to (fun z hz => ?_)
  obtain ⟨h2, m2, rfl⟩ := hz
  have eo : ∀ c, c ≠ r → xfl X r (X q) 13 c = X c := fun c hc => xfl_off _ _ _ hc
  exact ⟨h2, rM.row m2 y1 (y2.of (fun p kp => eo p (fun q => by have := kr.k; rw [q] at kp; omega))) y3 x yr kr hZ (fun c hc _ => eo c hc) (yr q zq).2.1 (fun j hj => (xfl_at _ _ _ hj).trans ((yr q zq).2.2 j hj)), rfl⟩
theorem rm_164l {r q : Nat} (s : rM g n X0 Z Y t a e h) (kq : isRw q) (kr : isRw r) : mj_Ok (D + 1) 164 [.ref q, .ref r] h (fun z => ∃ h2, rM g n X0 (fun _ => False) Y t a e h2 ∧ z = (.inl none, h2)) := by
  obtain ⟨V, X, m, ⟨y1, y2, y3⟩, x, yr⟩ := s
  have hk := kr.ne
  refine (mS_copy (D := D) m kq.k kr.k).to (fun z hz => ?_)
  obtain ⟨h2, m2, rfl⟩ := hz
  have eo : ∀ c, c ≠ r → xfl X r (X q) 13 c = X c := fun c hc => xfl_off _ _ _ hc
  have z := rM.lose m2 y1 (y2.of (fun p kp => eo p (fun q => by have := kr.k; rw [q] at kp; omega))) y3 x yr kr (fun c hc _ => eo c hc)
  exact ⟨h2, z.mono (fun c hc => hc.elim), rfl⟩
theorem rw13_cg {f f' : Nat → Int} (h : ∀ j, j < 13 → f j = f' j) : rw13 f = rw13 f' := funext fun j => by
  show (if j < 13 then f j else 0) = if j < 13 then f' j else 0
  by_cases q : j < 13
  · rw [if_pos q, if_pos q, h j q]
  · rw [if_neg q, if_neg q]
/-- what an operation leaves in a row: its result, or nothing is told -/
def rOp (g : mj_H) (n : Nat) (X0 : Nat → Nat → Int) (Z : Nat → Prop) (Y : Nat → Nat → Int) (r : Nat) (ok : Prop) (w : Nat → Int) (t a e : Int) (z : mj_R) : Prop := ∃ h2, (ok ∧ rM g n X0 Z (rwu Y r w) t a e h2 ∧ z = (.inl (some (.int (jn 1))), h2)) ∨ (¬ ok ∧ rM g n X0 (fun c => c ≠ r ∧ Z c) Y t a e h2 ∧ z = (.inl (some (.int (jn 0))), h2))
theorem DG_xFr {X X1 : Nat → Nat → Int} {r : Nat} (kr : isRw r) (d : DG X) (h : xF (fun x => x = r) X X1) : DG X1 := fun p kp => by
  have q := h.2 ⟨⟨(d 20 cq_d20).1, by have := (d 20 cq_d20).2; rw [mK_z.1] at this; omega⟩, ⟨(d 50 cq_d50).1, by have := (d 50 cq_d50).2; rw [mK_z.2.1] at this; omega⟩, ⟨(d 80 cq_d80).1, by have := (d 80 cq_d80).2; rw [mK_z.2.2.1] at this; omega⟩, ⟨(d 110 cq_d110).1, by have := (d 110 cq_d110).2; rw [mK_z.2.2.2.1] at this; omega⟩⟩
  obtain ⟨q1, q2, q3, q4⟩ := q
  by_cases c1 : p = 20
  · subst c1
    rw [mK_z.1]
    omega
  by_cases c2 : p = 50
  · subst c2
    rw [mK_z.2.1]
    omega
  by_cases c3 : p = 80
  · subst c3
    rw [mK_z.2.2.1]
    omega
  by_cases c4 : p = 110
  · subst c4
    rw [mK_z.2.2.2.1]
    omega
  have c5 : ¬ p = r := fun e => by
    have := kr.k
    rw [e] at kp
    omega
  rw [h.1 p c1 c2 c3 c4 c5]
  exact d p kp
theorem rm_167 {p q : Nat} {f : Int} (s : rM g n X0 Z Y t a e h) (zp : Z p) (zq : Z q) (hf : f = 1 ∨ f = -1) : mj_Ok (D + 2) 167 [.ref p, .ref q, .int (jn f), .ref p] h (rOp g n X0 Z Y p (sml (fun j => Y p j + f * Y q j)) (fun j => Y p j + f * Y q j) t a e) := by
  obtain ⟨V, X, m, ⟨y1, y2, y3⟩, x, yr⟩ := s
  have kp := (yr p zp).1
  have hk := kp.ne
  have sm : ∀ c, Z c → sml (X c) := fun c hc => sml_cg (fun j hj => ((yr c hc).2.2 j hj).symm) (yr c hc).2.1
  have ee : ∀ j, j < 13 → X p j + f * X q j = Y p j + f * Y q j := fun j hj => by rw [(yr p zp).2.2 j hj, (yr q zq).2.2 j hj]
  refine (mS_sum (D := D) m kp.k (yr q zq).1.k kp.k (sm p zp) (sm q zq) hf).to (fun z hz => ?_)
  obtain ⟨h2, m2, hz⟩ := hz
  have eo : ∀ c, c ≠ p → xfl X p (fun e => X p e + f * X q e) 13 c = X c := fun c hc => xfl_off _ _ _ hc
  have dd := y2.of (fun c kc => eo c (fun w => by have := kp.k; rw [w] at kc; omega))
  rcases hz with ⟨z1, rfl⟩ | ⟨z1, rfl⟩
  · have z2 := sml_cg ee z1
    exact ⟨h2, Or.inl ⟨z2, rM.row m2 y1 dd y3 x yr kp (fun c hc => Or.inr hc) (fun c hc _ => eo c hc) z2 (fun j hj => (xfl_at _ _ _ hj).trans (ee j hj)), rfl⟩⟩
  · exact ⟨h2, Or.inr ⟨fun w => z1 (sml_cg (fun j hj => (ee j hj).symm) w), rM.lose m2 y1 dd y3 x yr kp (fun c hc _ => eo c hc), rfl⟩⟩
theorem rm_11 {p q : Nat} (s : rM g n X0 Z Y t a e h) (zp : Z p) (zq : Z q) : mj_Ok (D + 4) 11 [.ref 19, .ref p, .ref q, .ref p] h (rOp g n X0 Z Y p (fit13 (pz_mul (rw13 (Y p)) (rw13 (Y q)))) (pz_mul (rw13 (Y p)) (rw13 (Y q))) t a e) := by
  obtain ⟨V, X, m, ⟨y1, y2, y3⟩, x, yr⟩ := s
  have kp := (yr p zp).1
  have hk := kp.ne
  have sm : ∀ c, Z c → sml (X c) := fun c hc => sml_cg (fun j hj => ((yr c hc).2.2 j hj).symm) (yr c hc).2.1
  refine (mD_mulRows (D := D) m kp.k (yr q zq).1.k (sm p zp) (sm q zq) kp.k).to (fun z hz => ?_)
  rw [rw13_cg (yr p zp).2.2, rw13_cg (yr q zq).2.2] at hz
  obtain ⟨V2, X2, h2, m2, df, xf, hz⟩ := hz
  have eo : ∀ c, c ≠ p → c = 1 ∨ (2 ≤ c ∧ c < 19) ∨ 455 ≤ c → X2 c = X c := fun c hc hh => xf.1 c (by omega) (by omega) (by omega) (by omega) hc
  rcases hz with ⟨z1, rfl, hx⟩ | ⟨z1, rfl⟩
  · exact ⟨h2, Or.inl ⟨z1, rM.row m2 (y1.dF df) (DG_xFr kp y2 xf) y3 x yr kp (fun c hc => Or.inr hc) eo z1.1 hx, rfl⟩⟩
  · exact ⟨h2, Or.inr ⟨z1, rM.lose m2 (y1.dF df) (DG_xFr kp y2 xf) y3 x yr kp eo, rfl⟩⟩
theorem rm_12 {p z : Nat} (s : rM g n X0 Z Y t a e h) (zp : Z p) (hz : z ≤ 12) : mj_Ok (D + 4) 12 [.ref 19, .ref p, .int (jn (z : Int)), .ref p] h (rOp g n X0 Z Y p (fit13 (pw (rw13 (Y p)) z)) (pw (rw13 (Y p)) z) t a e) := by
  obtain ⟨V, X, m, ⟨y1, y2, y3⟩, x, yr⟩ := s
  have kp := (yr p zp).1
  have hk := kp.ne
  have sm : ∀ c, Z c → sml (X c) := fun c hc => sml_cg (fun j hj => ((yr c hc).2.2 j hj).symm) (yr c hc).2.1
  refine (mD_raise (D := D) m kp.k kp.k (sm p zp) (e := z) hz (y1.p cq_d80)).to (fun z hz => ?_)
  rw [rw13_cg (yr p zp).2.2] at hz
  obtain ⟨V2, X2, h2, m2, df, xf, hz⟩ := hz
  have eo : ∀ c, c ≠ p → c = 1 ∨ (2 ≤ c ∧ c < 19) ∨ 455 ≤ c → X2 c = X c := fun c hc hh => xf.1 c (by omega) (by omega) (by omega) (by omega) hc
  rcases hz with ⟨z1, rfl, hx⟩ | ⟨z1, rfl⟩
  · exact ⟨h2, Or.inl ⟨z1, rM.row m2 (y1.dF df) (DG_xFr kp y2 xf) y3 x yr kp (fun c hc => Or.inr hc) eo z1.1 hx, rfl⟩⟩
  · exact ⟨h2, Or.inr ⟨z1, rM.lose m2 (y1.dF df) (DG_xFr kp y2 xf) y3 x yr kp eo, rfl⟩⟩
theorem rm_48 {b k : Nat} (s : rM g n X0 Z Y t a e h) (hb : b = 456 ∨ b = 466) (hk : k ≤ 8) : mj_Ok (D + 1) 48 [.ref b, .int (jn (k : Int))] h (fun z => z = (.inl (some (.ref (b + 1 + k))), h)) := by
  obtain ⟨V, X, m, _, _, _⟩ := s
  have kb : cK b = 6 ∧ cL b = 9 := by
    rcases hb with rfl | rfl
    · exact ⟨cq_456.1, cq_456.2.1⟩
    · exact ⟨cq_456.2.2.1, cq_456.2.2.2.1⟩
  refine mj_Ok.of (M := mj_m48) (loc := [some (.ref b), some (.int (jn (k : Int)))]) rfl rfl rfl ?_
  iterate 2 refine mj_T.pl rfl rfl rfl rfl ?_
  refine mj_T.if0 (a := (k : Int)) rfl ⟨by omega, by omega⟩ (fun c => ?_) (fun _ => ?_)
  · simp only [jc, decide_eq_true_eq] at c
    omega
  iterate 2 refine mj_T.pl rfl rfl rfl rfl ?_
  refine mT_alen m 6 kb.1 (by decide) rfl ?_
  refine mj_T.icmp (a := (k : Int)) (b := ((cL b : Nat) : Int)) rfl ⟨by omega, by omega⟩ ⟨by omega, by omega⟩ (fun c => ?_) (fun _ => ?_)
  · simp only [jc, Bool.not_eq_true', Bool.not_eq_false', decide_eq_true_eq, decide_eq_false_iff_not] at c
    have := kb.2
    omega
  iterate 2 refine mj_T.pl rfl rfl rfl rfl ?_
  refine mT_aald m 6 kb.1 (by decide) rfl rfl (by omega) ⟨by omega, by omega⟩ ?_
  exact mj_T.ret rfl rfl rfl (by
    rw [Int.toNat_natCast]
    rfl)
end RMB
/-! The class's reader over the memory: blanks, signs, numbers. -/
section JRD2
variable {D tm n : Nat} {T : Nat → Int} {g h h' : mj_H} {a e t : Int} {X0 Y : Nat → Nat → Int} {Z : Nat → Prop}
variable {pc : Nat} {M : mj_M} {loc : mj_L} {st : List Value} {Q : mj_R → Prop} {r1 r2 r3 r4 r5 : Nat}
theorem rm_at {p : Nat} {m : Nat} (s : rM g n X0 Z Y t (p : Int) e h) (hB : bX X0 tm T) (ht : tm ≤ 200) (hT : ∀ j : Nat, j < tm → 1 ≤ T j ∧ T j ≤ 255) (hp : p ≤ 200) (hc : M.2.2.2.2.1 pc = some (.invokevirtual m, 79, 2, r3, r4, 7)) (hk : mj_kind (.invokevirtual m) r3 = 3) (hcat : mj_cat st ≤ 8) (k : mj_T (D + 1) M (pc + 3) loc (.int (jn (rvt T tm p)) :: st) h Q) : mj_T (D + 1) M pc loc (.int (jn (p : Int)) :: .ref 13 :: st) h Q := by
  have b := s.jBuf hB
  refine mj_T.call hc hk (Nat.le_add_left _ _) hcat (by simp [mj_recv, b.1]) rfl (rq_at (D := D) b ht hT ⟨by omega, by omega⟩) (fun v h' hq => ?_) (fun i h' hq => by cases hq)
  cases hq
  have e : (if 0 ≤ (p : Int) ∧ (p : Int) < (tm : Int) then T (p : Int).toNat else -1) = rvt T tm p := by
    unfold rvt
    rw [Int.toNat_natCast]
    by_cases c : p < tm
    · rw [if_pos c, if_pos ⟨by omega, by omega⟩]
    · rw [if_neg c, if_neg (by omega)]
  rw [e]
  exact k
theorem rm_skips_loop (hB : bX X0 tm T) (ht : tm ≤ 200) (hT : ∀ j : Nat, j < tm → 1 ≤ T j ∧ T j ≤ 255) {Q : mj_R → Prop} : ∀ (m p i : Nat) (h : mj_H), p + m = tm → i ≤ p → rM g n X0 Z Y t (p : Int) e h → (∀ h2, rM g n X0 Z Y t (rsk T m p : Nat) e h2 → Q (.inl none, h2)) → mj_T (D + 1) mj_m56 2 [some (.ref 455), some (.int (jn (i : Int)))] [] h Q := by
  intro m
  induction m with
  | zero =>
    intro p i h hp hi s hend
    have b := s.jBuf hB
    iterate 2 refine mj_T.pl rfl rfl rfl rfl ?_
    refine rm_g s rfl rfl ?_
    refine mj_T.gfl rfl b.1 rfl ?_
    refine mj_T.icmp (a := (i : Int)) (b := (tm : Int)) rfl ⟨by omega, by omega⟩ ⟨by omega, by omega⟩ (fun _ => mj_T.ret rfl rfl rfl (hend h s)) (fun _ => ?_)
    refine mj_T.pl rfl rfl rfl rfl ?_
    refine rm_g s rfl rfl ?_
    refine mj_T.pl rfl rfl rfl rfl ?_
    refine rm_g s rfl rfl ?_
    refine rm_at s hB ht hT (by omega) rfl rfl (Nat.le_of_ble_eq_true rfl) ?_
    rw [show rvt T tm p = -1 from if_neg (by omega)]
    refine mj_T.pl rfl rfl rfl rfl ?_
    refine mj_T.icmp (a := -1) (b := 32) rfl ⟨by decide, by decide⟩ ⟨by decide, by decide⟩ (fun _ => mj_T.ret rfl rfl rfl (hend h s)) (fun c => absurd c (by decide))
  | succ m ih =>
    intro p i h hp hi s hend
    have b := s.jBuf hB
    have hTp := hT p (by omega)
    iterate 2 refine mj_T.pl rfl rfl rfl rfl ?_
    refine rm_g s rfl rfl ?_
    refine mj_T.gfl rfl b.1 rfl ?_
    refine mj_T.icmp (a := (i : Int)) (b := (tm : Int)) rfl ⟨by omega, by omega⟩ ⟨by omega, by omega⟩ (fun c => ?_) (fun _ => ?_)
    · have c := of_decide_eq_true c
      omega
    refine mj_T.pl rfl rfl rfl rfl ?_
    refine rm_g s rfl rfl ?_
    refine mj_T.pl rfl rfl rfl rfl ?_
    refine rm_g s rfl rfl ?_
    refine rm_at s hB ht hT (by omega) rfl rfl (Nat.le_of_ble_eq_true rfl) ?_
    rw [show rvt T tm p = T p from if_pos (by omega)]
    refine mj_T.pl rfl rfl rfl rfl ?_
    refine mj_T.icmp (a := T p) (b := 32) rfl ⟨by omega, by omega⟩ ⟨by decide, by decide⟩ (fun c => ?_) (fun c => ?_)
    · simp only [jc, Bool.not_eq_true', decide_eq_false_iff_not] at c
      rw [show rsk T (m + 1) p = p from if_neg c] at hend
      exact mj_T.ret rfl rfl rfl (hend h s)
    · simp only [jc, Bool.not_eq_false', decide_eq_true_eq] at c
      rw [show rsk T (m + 1) p = rsk T m (p + 1) from if_pos c] at hend
      iterate 2 refine mj_T.pl rfl rfl rfl rfl ?_
      refine rm_g s rfl rfl ?_
      refine mj_T.pl rfl rfl rfl rfl ?_
      refine mj_T.iadd (a := (p : Int)) (b := 1) rfl ?_
      rw [show (p : Int) + 1 = ((p + 1 : Nat) : Int) by omega]
      refine rm_p2 s rfl (fun h1 s1 => ?_)
      refine mj_T.iinc (a := (i : Int)) rfl rfl ?_
      refine mj_T.eq (loc2 := [some (.ref 455), some (.int (jn ((i + 1 : Nat) : Int)))]) ?_ rfl (by rw [show ((i + 1 : Nat) : Int) = (i : Int) + 1 by omega]; rfl) rfl rfl
      refine mj_T.pl rfl rfl rfl rfl ?_
      exact ih (p + 1) (i + 1) h1 (by omega) (by omega) s1 hend
theorem rm_skips {p : Nat} (hB : bX X0 tm T) (ht : tm ≤ 200) (hT : ∀ j : Nat, j < tm → 1 ≤ T j ∧ T j ≤ 255) (hp : p ≤ tm) (s : rM g n X0 Z Y t (p : Int) e h) : mj_Ok (D + 2) 56 [.ref 455] h (fun r => ∃ h2, rM g n X0 Z Y t (rskp T tm p : Nat) e h2 ∧ r = (.inl none, h2)) := by
  refine mj_Ok.of (M := mj_m56) (loc := [some (.ref 455), none]) rfl rfl rfl ?_
  iterate 2 refine mj_T.pl rfl rfl rfl rfl ?_
  refine rm_skips_loop (D := D) hB ht hT (tm - p) p 0 h (by omega) (Nat.zero_le _) s (fun h2 s2 => ⟨h2, s2, rfl⟩)
theorem rm_takes {p : Nat} {c : Int} (hc : 1 ≤ c ∧ c ≤ 255) (hB : bX X0 tm T) (ht : tm ≤ 200) (hT : ∀ j : Nat, j < tm → 1 ≤ T j ∧ T j ≤ 255) (hp : p ≤ tm) (s : rM g n X0 Z Y t (p : Int) e h) : mj_Ok (D + 3) 57 [.ref 455, .int (jn c)] h (fun r => (∃ (b : Nat) (h2 : mj_H), (rtk T tm c p = some b ∧ b ≤ tm ∧ p < b) ∧ rM g n X0 Z Y t (b : Int) e h2 ∧ r = (.inl (some (.int (jn 1))), h2)) ∨ (∃ h2, rtk T tm c p = none ∧ rM g n X0 Z Y t (rskp T tm p : Nat) e h2 ∧ r = (.inl (some (.int (jn 0))), h2))) := by
  refine mj_Ok.of (M := mj_m57) (loc := [some (.ref 455), some (.int (jn c))]) rfl rfl rfl ?_
  have hle := rskp_le (T := T) hp
  have hge := rskp_ge (T := T) (tm := tm) p
  refine mj_T.pl rfl rfl rfl rfl ?_
  refine mj_T.call rfl rfl (Nat.le_of_ble_eq_true rfl) (Nat.le_of_ble_eq_true rfl) (s.rv (by decide) rfl _) rfl (rm_skips (D := D) hB ht hT hp s) (fun v h1 hq => ?_) (fun i h1 hq => by obtain ⟨_, _, hq⟩ := hq; cases hq)
  obtain ⟨_, s1, hq⟩ := hq
  cases hq
  obtain ⟨q, hqd⟩ : ∃ q, rskp T tm p = q := ⟨_, rfl⟩
  rw [hqd] at s1 hle hge ⊢
  refine mj_T.pl rfl rfl rfl rfl ?_
  refine rm_g s1 rfl rfl ?_
  refine mj_T.pl rfl rfl rfl rfl ?_
  refine rm_g s1 rfl rfl ?_
  refine rm_at s1 hB ht hT (by omega) rfl rfl (Nat.le_of_ble_eq_true rfl) ?_
  have hb := rvt_bd (tm := tm) hT q
  refine mj_T.pl rfl rfl rfl rfl ?_
  refine mj_T.icmp (a := rvt T tm q) (b := c) rfl ⟨by omega, by omega⟩ ⟨by omega, by omega⟩ (fun hc2 => ?_) (fun hc2 => ?_)
  · simp only [jc, decide_eq_true_eq] at hc2
    have hlt : q < tm ∧ T q = c := by
      unfold rvt at hc2
      by_cases c1 : q < tm
      · rw [if_pos c1] at hc2
        exact ⟨c1, hc2⟩
      · rw [if_neg c1] at hc2
        omega
    iterate 2 refine mj_T.pl rfl rfl rfl rfl ?_
    refine rm_g s1 rfl rfl ?_
    refine mj_T.pl rfl rfl rfl rfl ?_
    refine mj_T.iadd (a := (q : Int)) (b := 1) rfl ?_
    rw [show (q : Int) + 1 = ((q + 1 : Nat) : Int) by omega]
    refine rm_p2 s1 rfl (fun h2 s2 => ?_)
    refine mj_T.pl rfl rfl rfl rfl ?_
    exact mj_T.ret rfl rfl rfl (Or.inl ⟨q + 1, h2, ⟨by unfold rtk; rw [hqd, if_pos hlt], by omega, by omega⟩, s2, rfl⟩)
  · simp only [jc, decide_eq_false_iff_not] at hc2
    refine mj_T.pl rfl rfl rfl rfl ?_
    refine mj_T.ret rfl rfl rfl (Or.inr ⟨h1, ?_, s1, rfl⟩)
    unfold rtk
    rw [hqd, if_neg]
    intro hn
    exact hc2 (by rw [show rvt T tm q = T q from if_pos hn.1]; exact hn.2)
theorem rm_num_loop (hB : bX X0 tm T) (ht : tm ≤ 200) (hT : ∀ j : Nat, j < tm → 1 ≤ T j ∧ T j ≤ 255) {s0 : Nat} {Q : mj_R → Prop} : ∀ (m k : Nat) (h : mj_H), s0 + k + m = tm → rM g n X0 Z Y t ((s0 + k : Nat) : Int) e h → (∀ (k2 : Nat) (h2 : mj_H) (l4 : Option Value), s0 + k2 = rdg T m (s0 + k) → rM g n X0 Z Y t ((s0 + k2 : Nat) : Int) e h2 → mj_T (D + 1) mj_m54 78 [some (.ref 455), some (.int (jn (s0 : Int))), some (.long (jl (rvl T s0 k2))), none, l4] [] h2 Q) → mj_T (D + 1) mj_m54 10 [some (.ref 455), some (.int (jn (s0 : Int))), some (.long (jl (rvl T s0 k))), none, some (.int (jn (k : Int)))] [] h Q := by
  intro m
  induction m with
  | zero =>
    intro k h hk s hend
    have b := s.jBuf hB
    iterate 2 refine mj_T.pl rfl rfl rfl rfl ?_
    refine rm_g s rfl rfl ?_
    refine mj_T.gfl rfl b.1 rfl ?_
    refine mj_T.icmp (a := (k : Int)) (b := (tm : Int)) rfl ⟨by omega, by omega⟩ ⟨by omega, by omega⟩ (fun _ => hend k h _ rfl s) (fun _ => ?_)
    refine mj_T.pl rfl rfl rfl rfl ?_
    refine rm_g s rfl rfl ?_
    refine mj_T.pl rfl rfl rfl rfl ?_
    refine rm_g s rfl rfl ?_
    refine rm_at s hB ht hT (by omega) rfl rfl (Nat.le_of_ble_eq_true rfl) ?_
    rw [show rvt T tm (s0 + k) = -1 from if_neg (by omega)]
    refine mj_T.call rfl rfl (Nat.le_of_ble_eq_true rfl) (Nat.le_of_ble_eq_true rfl) rfl rfl (rq_isDigit (D := D) (v := -1) ⟨by decide, by decide⟩) (fun v' h' hq' => ?_) (fun i h' hq' => by rcases hq' with ⟨_, h⟩ | ⟨_, h⟩ <;> cases h)
    rcases hq' with ⟨hd, _⟩ | ⟨_, hq'⟩
    · omega
    cases hq'
    refine mj_T.if0 (a := 0) rfl ⟨by decide, by decide⟩ (fun _ => hend k h _ rfl s) (fun hc2 => by simp [jc] at hc2)
  | succ m ih =>
    intro k h hk s hend
    have b := s.jBuf hB
    have hTa := hT (s0 + k) (by omega)
    iterate 2 refine mj_T.pl rfl rfl rfl rfl ?_
    refine rm_g s rfl rfl ?_
    refine mj_T.gfl rfl b.1 rfl ?_
    refine mj_T.icmp (a := (k : Int)) (b := (tm : Int)) rfl ⟨by omega, by omega⟩ ⟨by omega, by omega⟩ (fun c => ?_) (fun _ => ?_)
    · have c := of_decide_eq_true c
      omega
    refine mj_T.pl rfl rfl rfl rfl ?_
    refine rm_g s rfl rfl ?_
    refine mj_T.pl rfl rfl rfl rfl ?_
    refine rm_g s rfl rfl ?_
    refine rm_at s hB ht hT (by omega) rfl rfl (Nat.le_of_ble_eq_true rfl) ?_
    rw [show rvt T tm (s0 + k) = T (s0 + k) from if_pos (by omega)]
    refine mj_T.call rfl rfl (Nat.le_of_ble_eq_true rfl) (Nat.le_of_ble_eq_true rfl) rfl rfl (rq_isDigit (D := D) (v := T (s0 + k)) ⟨by omega, by omega⟩) (fun v' h' hq' => ?_) (fun i h' hq' => by rcases hq' with ⟨_, h⟩ | ⟨_, h⟩ <;> cases h)
    rcases hq' with ⟨hd, hq'⟩ | ⟨hd, hq'⟩
    · cases hq'
      rw [show rdg T (m + 1) (s0 + k) = rdg T m (s0 + k + 1) from if_pos hd] at hend
      refine mj_T.if0 (a := 1) rfl ⟨by decide, by decide⟩ (fun hc2 => by simp [jc] at hc2) (fun _ => ?_)
      iterate 2 refine mj_T.pl rfl rfl rfl rfl ?_
      refine mj_T.eq (pc2 := 43) (st2 := [.long (jl 10), .long (jl (rvl T s0 k))]) ?_ rfl rfl rfl rfl
      refine mj_T.lmul rfl ?_
      refine mj_T.pl rfl rfl rfl rfl ?_
      refine rm_g s rfl rfl ?_
      refine mj_T.pl rfl rfl rfl rfl ?_
      refine rm_g s rfl rfl ?_
      refine rm_at s hB ht hT (by omega) rfl rfl (Nat.le_of_ble_eq_true rfl) ?_
      rw [show rvt T tm (s0 + k) = T (s0 + k) from if_pos (by omega)]
      refine mj_T.i2l rfl ⟨by omega, by omega⟩ ?_
      refine mj_T.ladd rfl ?_
      refine mj_T.pl rfl rfl rfl rfl ?_
      refine mj_T.lsub (b := 48) rfl ?_
      rw [show rvl T s0 k * 10 + T (s0 + k) - 48 = rvl T s0 (k + 1) by show _ = 10 * rvl T s0 k + T (s0 + k) - 48; omega]
      refine mj_T.pl (loc' := [some (.ref 455), some (.int (jn (s0 : Int))), some (.long (jl (rvl T s0 (k + 1)))), none, some (.int (jn (k : Int)))]) rfl rfl rfl rfl ?_
      iterate 2 refine mj_T.pl rfl rfl rfl rfl ?_
      refine rm_g s rfl rfl ?_
      refine mj_T.pl rfl rfl rfl rfl ?_
      refine mj_T.iadd (a := ((s0 + k : Nat) : Int)) (b := 1) rfl ?_
      rw [show ((s0 + k : Nat) : Int) + 1 = ((s0 + (k + 1) : Nat) : Int) by omega]
      refine rm_p2 s rfl (fun h1 s1 => ?_)
      refine mj_T.iinc (a := (k : Int)) rfl rfl ?_
      refine mj_T.eq (loc2 := [some (.ref 455), some (.int (jn (s0 : Int))), some (.long (jl (rvl T s0 (k + 1)))), none, some (.int (jn ((k + 1 : Nat) : Int)))]) ?_ rfl (by rw [show ((k + 1 : Nat) : Int) = (k : Int) + 1 by omega]; rfl) rfl rfl
      refine mj_T.pl rfl rfl rfl rfl ?_
      exact ih (k + 1) h1 (by omega) s1 hend
    · cases hq'
      rw [show rdg T (m + 1) (s0 + k) = s0 + k from if_neg hd] at hend
      refine mj_T.if0 (a := 0) rfl ⟨by decide, by decide⟩ (fun _ => hend k h _ rfl s) (fun hc2 => by simp [jc] at hc2)
theorem rm_number {p : Nat} (hB : bX X0 tm T) (ht : tm ≤ 200) (hT : ∀ j : Nat, j < tm → 1 ≤ T j ∧ T j ≤ 255) (hp : p ≤ tm) (s : rM g n X0 Z Y t (p : Int) (-1) h) : mj_Ok (D + 2) 54 [.ref 455] h (fun r => ∃ (k : Nat) (h2 : mj_H), rdgp T tm p = p + k ∧ p + k ≤ tm ∧ ((k ≤ 18 ∧ rM g n X0 Z Y t ((p + k : Nat) : Int) (-1) h2 ∧ r = (.inl (some (.long (jl (rvl T p k)))), h2)) ∨ (18 < k ∧ rM g n X0 Z Y t ((p + k : Nat) : Int) (p : Int) h2 ∧ r = (.inl (some (.long (jl 0))), h2)))) := by
  refine mj_Ok.of (M := mj_m54) (loc := [some (.ref 455), none, none, none, none]) rfl rfl rfl ?_
  refine mj_T.pl rfl rfl rfl rfl ?_
  refine rm_g s rfl rfl ?_
  refine mj_T.pl (loc' := [some (.ref 455), some (.int (jn (p : Int))), none, none, none]) rfl rfl rfl rfl ?_
  iterate 4 refine mj_T.pl rfl rfl rfl rfl ?_
  refine rm_num_loop (D := D) hB ht hT (tm - p) 0 h (by omega) s (fun k h2 l4 hk s2 => ?_)
  have hdl := rdg_le (T := T) (tm - p) (p + 0)
  rw [← hk] at hdl
  refine mj_T.pl rfl rfl rfl rfl ?_
  refine rm_g s2 rfl rfl ?_
  refine mj_T.pl rfl rfl rfl rfl ?_
  refine mj_T.isub (a := ((p + k : Nat) : Int)) (b := (p : Int)) rfl ?_
  rw [show ((p + k : Nat) : Int) - (p : Int) = (k : Int) by omega]
  refine mj_T.pl rfl rfl rfl rfl ?_
  refine mj_T.icmp (a := (k : Int)) (b := 18) rfl ⟨by omega, by omega⟩ ⟨by decide, by decide⟩ (fun c => ?_) (fun c => ?_)
  · have c := of_decide_eq_true c
    refine mj_T.pl rfl rfl rfl rfl ?_
    exact mj_T.ret rfl rfl rfl ⟨k, h2, hk.symm, by omega, Or.inl ⟨by omega, s2, rfl⟩⟩
  · have c := of_decide_eq_false c
    iterate 2 refine mj_T.pl rfl rfl rfl rfl ?_
    refine rm_p3 s2 rfl (fun h3 s3 => ?_)
    refine mj_T.pl rfl rfl rfl rfl ?_
    exact mj_T.ret rfl rfl rfl ⟨k, h3, hk.symm, by omega, Or.inr ⟨by omega, s3, rfl⟩⟩
end JRD2
/-! What a text says, with its bounds: none where something is too great. -/
noncomputable def zvf (P : pz_P) : Option pz_P := @ite (Option pz_P) (fit13 P) (Classical.propDecidable _) (some P) none
theorem zvf_y {P : pz_P} (h : fit13 P) : zvf P = some P := by
  unfold zvf
  exact if_pos h
theorem zvf_n {P : pz_P} (h : ¬ fit13 P) : zvf P = none := by
  unfold zvf
  exact if_neg h
noncomputable def zvm : Option pz_P → Option pz_P → Option pz_P
  | some A, some B => zvf (pz_mul A B)
  | _, _ => none
noncomputable def zvp : Option pz_P → Nat → Option pz_P
  | some A, n => zvf (pw A n)
  | none, _ => none
noncomputable def zva : Option pz_P → Int → Option pz_P → Option pz_P
  | some A, s, some B => zvf (fun j => A j + s * B j)
  | _, _, _ => none
def pz_x : pz_P := fun i => if i = 1 then 1 else 0
def pz_k (c : Int) : pz_P := fun i => if i = 0 then c else 0
section RVL
variable (T : Nat → Int) (tm : Nat)
/-- the number that begins at a -/
def rnv (a : Nat) : Int := rvl T (rskp T tm a) (rdgp T tm (rskp T tm a) - rskp T tm a)
noncomputable def zvx (w : Option pz_P) (a : Nat) : Option pz_P := match rtk T tm 94 a with
  | some c => zvp w (rnv T tm c).toNat
  | none => w
/-- the value, as rpr0 reads: what lies ahead of it (a product's or a sum's beginning) and the sign of the next -/
noncomputable def zv0 : Nat → Nat → Nat → Nat → Option pz_P → Int → Option pz_P
  | 0, _, _, _, _, _ => none
  | f + 1, 0, d, a, _, _ =>
    if rskp T tm a < tm ∧ T (rskp T tm a) = 120 then zvx T tm (some pz_x) (rskp T tm a + 1)
    else if rskp T tm a < tm ∧ T (rskp T tm a) = 40 then
      (match rpr0 T tm f 3 (d - 1) (rskp T tm a + 1) with
        | some (true, c) => (match rtk T tm 41 c with
          | some e => zvx T tm (zv0 f 3 (d - 1) (rskp T tm a + 1) none 1) e
          | none => none)
        | _ => none)
    else zvx T tm (some (pz_k (rnv T tm a))) (rdgp T tm (rskp T tm a))
  | f + 1, 1, d, a, P, _ => match rpr0 T tm f 0 d a with
    | some (true, c) => (match rtk T tm 42 c with
      | none => zvm P (zv0 f 0 d a none 1)
      | some e => zv0 f 1 d e (zvm P (zv0 f 0 d a none 1)) 1)
    | _ => none
  | f + 1, 2, d, a, P, s => match rpr0 T tm f 1 d a with
    | some (true, c) => (match rtk T tm 43 c with
      | some e => zv0 f 2 d e (zva P s (zv0 f 1 d a (some pz_one) 1)) 1
      | none => match rtk T tm 45 (rskp T tm c) with
        | some e => zv0 f 2 d e (zva P s (zv0 f 1 d a (some pz_one) 1)) (-1)
        | none => zva P s (zv0 f 1 d a (some pz_one) 1))
    | _ => none
  | f + 1, _ + 3, d, a, _, _ => match rtk T tm 45 a with
    | some e => zv0 f 2 d e (some pz_0) (-1)
    | none => zv0 f 2 d (rskp T tm a) (some pz_0) 1
end RVL
/-- a row holds the value, or something is too great -/
def U0 (w : Option pz_P) (t t2 : Int) (f : Nat → Int) : Prop := (t = 0 ∨ t = 1) ∧ ((∃ A, w = some A ∧ fit13 A ∧ t2 = t ∧ ∀ j, j < 13 → f j = A j) ∨ (w = none ∧ t2 = 1))
theorem U0.t {w : Option pz_P} {t t2 : Int} {f : Nat → Int} (u : U0 w t t2 f) : t2 = 0 ∨ t2 = 1 := by
  rcases u with ⟨h, ⟨A, _, _, h2, _⟩ | ⟨_, h2⟩⟩
  · rw [h2]
    exact h
  · exact Or.inr h2
theorem fit_x : fit13 pz_x := ⟨fun j _ => by
  show (if j = 1 then (1 : Int) else 0).natAbs ≤ _
  split <;> decide, fun i hi => if_neg (by omega)⟩
theorem fit_one : fit13 pz_one := ⟨fun j _ => by
  show (if j = 0 then (1 : Int) else 0).natAbs ≤ _
  split <;> decide, fun i hi => if_neg (by omega)⟩
theorem fit_0 : fit13 pz_0 := ⟨fun j _ => by
  show (0 : Int).natAbs ≤ _
  decide, fun i hi => rfl⟩
theorem fit_k {c : Int} (h : c.natAbs ≤ 999999999999999999) : fit13 (pz_k c) := ⟨fun j _ => by
  show (if j = 0 then c else 0).natAbs ≤ _
  split
  · exact h
  · exact Nat.zero_le _, fun i hi => if_neg (by omega)⟩
theorem rw13_fit {A : pz_P} {f : Nat → Int} (hA : fit13 A) (h : ∀ j, j < 13 → f j = A j) : rw13 f = A := funext fun j => by
  show (if j < 13 then f j else 0) = A j
  by_cases q : j < 13
  · rw [if_pos q, h j q]
  · rw [if_neg q, hA.2 j (by omega)]
/-- a product of rows -/
theorem U0.mul {w v : Option pz_P} {t t1 t2 : Int} {f k : Nat → Int} (a : U0 w t t1 f) (b : U0 v t1 t2 k) : (∃ A B, w = some A ∧ v = some B ∧ t2 = t ∧ rw13 f = A ∧ rw13 k = B) ∨ (zvm w v = none ∧ t2 = 1) := by
  obtain ⟨ht, ⟨A, a1, a2, a3, a4⟩ | ⟨a1, a2⟩⟩ := a
  · obtain ⟨_, ⟨B, b1, b2, b3, b4⟩ | ⟨b1, b2⟩⟩ := b
    · exact Or.inl ⟨A, B, a1, b1, b3.trans a3, rw13_fit a2 a4, rw13_fit b2 b4⟩
    · exact Or.inr ⟨by rw [a1, b1]; rfl, b2⟩
  · obtain ⟨_, ⟨B, b1, b2, b3, b4⟩ | ⟨b1, b2⟩⟩ := b
    · exact Or.inr ⟨by rw [a1]; rfl, b3.trans a2⟩
    · exact Or.inr ⟨by rw [a1]; rfl, b2⟩
/-! The class's reader over the memory: exponents, powers. -/
section JRE2
variable {D tm n : Nat} {T : Nat → Int} {g h h' : mj_H} {a e t : Int} {X0 Y : Nat → Nat → Int} {Z : Nat → Prop}
/-- how a piece of the reading ends -/
def rQm (T : Nat → Int) (tm : Nat) (g : mj_H) (n : Nat) (X0 : Nat → Nat → Int) (Z : Nat → Prop) (a : Nat) (res : Bool × Nat) (V : Option Value → Prop) (U : (Nat → Nat → Int) → Int → Option Value → Prop) (r : mj_R) : Prop := ∃ (v : Option Value) (b : Nat) (h2 : mj_H) (Y2 : Nat → Nat → Int) (t2 : Int), r = (.inl v, h2) ∧ V v ∧ b ≤ tm ∧ ((res.1 = true ∧ b = res.2 ∧ a ≤ b ∧ rM g n X0 Z Y2 t2 (b : Int) (-1) h2 ∧ U Y2 t2 v) ∨ (res.1 = false ∧ res.2 ≤ tm ∧ rM g n X0 (fun _ => False) Y2 t2 (b : Int) (res.2 : Int) h2))
theorem rQm.le {a a' : Nat} {res : Bool × Nat} {V : Option Value → Prop} {U U' : (Nat → Nat → Int) → Int → Option Value → Prop} {r : mj_R} (q : rQm T tm g n X0 Z a' res V U r) (hl : a ≤ a') (hU : ∀ Y2 t2 v, U Y2 t2 v → U' Y2 t2 v) : rQm T tm g n X0 Z a res V U' r := by
  obtain ⟨v, b, h2, Y2, t2, q1, q2, q3, q4⟩ := q
  refine ⟨v, b, h2, Y2, t2, q1, q2, q3, ?_⟩
  rcases q4 with ⟨x1, x2, x3, x4, x5⟩ | x
  · exact Or.inl ⟨x1, x2, by omega, x4, hU _ _ _ x5⟩
  · exact Or.inr x
/-- the exponent that is found at a place -/
def zE (T : Nat → Int) (tm a : Nat) (z : Int) : Prop := (rtk T tm 94 a = none ∧ z = -1) ∨ ∃ c, rtk T tm 94 a = some c ∧ z = rnv T tm c ∧ 0 ≤ z
def UE (T : Nat → Int) (tm : Nat) (Y : Nat → Nat → Int) (t : Int) (a : Nat) (Y2 : Nat → Nat → Int) (t2 : Int) (v : Option Value) : Prop := Y2 = Y ∧ t2 = t ∧ ∃ z : Int, v = some (.int (jn z)) ∧ (-1 ≤ z ∧ z ≤ 12) ∧ zE T tm a z
/-- a factor: its base in the row 476, its exponent; rows of lesser depths stay -/
def zF (w : Option pz_P) (z : Int) (v : Option pz_P) : Prop := (z = -1 ∧ v = w) ∨ (0 ≤ z ∧ v = zvp w z.toNat)
theorem zF_of {w : Option pz_P} {z : Int} {a : Nat} (h : zE T tm a z) : zF w z (zvx T tm w a) := by
  unfold zvx
  rcases h with ⟨h1, h2⟩ | ⟨c, h1, h2, h3⟩
  · rw [h1]
    exact Or.inl ⟨h2, rfl⟩
  · rw [h1]
    exact Or.inr ⟨h3, by rw [h2]⟩
def UF (d : Nat) (Y : Nat → Nat → Int) (t : Int) (val : Option pz_P) (Y2 : Nat → Nat → Int) (t2 : Int) (v : Option Value) : Prop := ∃ (z : Int) (w : Option pz_P), v = some (.int (jn z)) ∧ (-1 ≤ z ∧ z ≤ 12) ∧ zF w z val ∧ U0 w t t2 (Y2 476) ∧ ∀ c, c ≤ 457 + (8 - d) ∨ (467 ≤ c ∧ c ≤ 467 + (8 - d)) → Y2 c = Y c
def UP (d : Nat) (Y : Nat → Nat → Int) (t : Int) (val : Option pz_P) (Y2 : Nat → Nat → Int) (t2 : Int) (v : Option Value) : Prop := U0 val t t2 (Y2 (467 + (8 - d))) ∧ ∀ c, c ≤ 457 + (8 - d) ∨ (467 ≤ c ∧ c < 467 + (8 - d)) → Y2 c = Y c
def US (d : Nat) (Y : Nat → Nat → Int) (t : Int) (val : Option pz_P) (Y2 : Nat → Nat → Int) (t2 : Int) (v : Option Value) : Prop := U0 val t t2 (Y2 (457 + (8 - d))) ∧ ∀ c, c < 457 + (8 - d) ∨ (467 ≤ c ∧ c < 467 + (8 - d)) → Y2 c = Y c
theorem rm_exponent {p : Nat} (hB : bX X0 tm T) (ht : tm ≤ 200) (hT : ∀ j : Nat, j < tm → 1 ≤ T j ∧ T j ≤ 255) (hp : p ≤ tm) (s : rM g n X0 Z Y t (p : Int) (-1) h) : mj_Ok (D + 3) 53 [.ref 455] h (rQm T tm g n X0 Z p (rnm T tm 12 p) rV (fun Y2 t2 v => Y2 = Y ∧ t2 = t ∧ ∃ z : Int, v = some (.int (jn z)) ∧ (0 ≤ z ∧ z ≤ 12) ∧ z = rnv T tm p)) := by
  refine mj_Ok.of (M := mj_m53) (loc := [some (.ref 455), none, none, none]) rfl rfl rfl ?_
  have hle := rskp_le (T := T) hp
  have hge := rskp_ge (T := T) (tm := tm) p
  refine mj_T.pl rfl rfl rfl rfl ?_
  refine mj_T.call rfl rfl (Nat.le_of_ble_eq_true rfl) (Nat.le_of_ble_eq_true rfl) (s.rv (by decide) rfl _) rfl (rm_skips (D := D) hB ht hT hp s) (fun v h1 hq => ?_) (fun i h1 hq => by obtain ⟨_, _, hq⟩ := hq; cases hq)
  obtain ⟨_, s1, hq⟩ := hq
  cases hq
  obtain ⟨q, hqd⟩ : ∃ q, rskp T tm p = q := ⟨_, rfl⟩
  have eV : rnv T tm p = rvl T q (rdgp T tm q - q) := by
    unfold rnv
    rw [hqd]
  have eN : rnm T tm 12 p = if (1 ≤ rdgp T tm q - q ∧ rdgp T tm q - q ≤ 18) ∧ rvl T q (rdgp T tm q - q) ≤ 12 then (true, rdgp T tm q) else (false, q) := by
    unfold rnm
    rw [hqd]
  rw [eN]
  rw [hqd] at s1 hle hge
  refine mj_T.pl rfl rfl rfl rfl ?_
  refine rm_g s1 rfl rfl ?_
  refine mj_T.pl (loc' := [some (.ref 455), some (.int (jn (q : Int))), none, none]) rfl rfl rfl rfl ?_
  refine mj_T.pl rfl rfl rfl rfl ?_
  refine rm_g s1 rfl rfl ?_
  refine mj_T.pl rfl rfl rfl rfl ?_
  refine rm_g s1 rfl rfl ?_
  refine rm_at (D := D + 1) s1 hB ht hT (by omega) rfl rfl (Nat.le_of_ble_eq_true rfl) ?_
  have hb := rvt_bd (tm := tm) hT q
  refine mj_T.call rfl rfl (Nat.le_of_ble_eq_true rfl) (Nat.le_of_ble_eq_true rfl) rfl rfl (rq_isDigit (D := D + 1) (v := rvt T tm q) ⟨by omega, by omega⟩) (fun v' h' hq' => ?_) (fun i h' hq' => by rcases hq' with ⟨_, h⟩ | ⟨_, h⟩ <;> cases h)
  rcases hq' with ⟨hd, hq'⟩ | ⟨hd, hq'⟩
  · cases hq'
    have hdig : q < tm ∧ 48 ≤ T q ∧ T q ≤ 57 := by
      unfold rvt at hd
      by_cases c : q < tm
      · rw [if_pos c] at hd
        exact ⟨c, hd⟩
      · rw [if_neg c] at hd
        omega
    refine mj_T.if0 (a := 1) rfl ⟨by decide, by decide⟩ (fun _ => ?_) (fun hc2 => by simp [jc] at hc2)
    refine mj_T.pl rfl rfl rfl rfl ?_
    refine mj_T.call rfl rfl (Nat.le_of_ble_eq_true rfl) (Nat.le_of_ble_eq_true rfl) (s1.rv (by decide) rfl _) rfl (rm_number (D := D) hB ht hT hle s1) (fun v h2 hq => ?_) (fun i h2 hq => by obtain ⟨_, _, _, _, ⟨_, _, hq⟩ | ⟨_, _, hq⟩⟩ := hq <;> cases hq)
    obtain ⟨k, h3, k1, k2, hq⟩ := hq
    have kp := (rdgp_pos k1).mpr hdig
    rw [k1, Nat.add_sub_cancel_left]
    have hin : ∀ j, q ≤ j → j < q + k → 48 ≤ T j ∧ T j ≤ 57 := fun j j1 j2 => rdg_in (T := T) (tm - q) q j j1 (by show j < rdgp T tm q; omega)
    have hbd := rvl_bd (T := T) (s := q) k hin
    rcases hq with ⟨k3, s3, hq⟩ | ⟨k3, s3, hq⟩
    · cases hq
      have hpw : 10 ^ k ≤ 10 ^ 18 := Nat.pow_le_pow_right (by decide) (by omega)
      have hj : jR (rvl T q k) := ⟨by omega, by omega⟩
      refine mj_T.pl (loc' := [some (.ref 455), some (.int (jn (q : Int))), some (.long (jl (rvl T q k))), none]) rfl rfl rfl rfl ?_
      refine mj_T.pl rfl rfl rfl rfl ?_
      refine mj_T.pl rfl rfl rfl rfl ?_
      refine mj_T.eq (st2 := [.long (jl 12), .long (jl (rvl T q k))]) ?_ rfl rfl rfl rfl
      refine mj_T.lif (a := rvl T q k) (b := 12) rfl rfl hj ⟨by decide, by decide⟩ (fun c => ?_) (fun c => ?_)
      · simp only [jc, decide_eq_true_eq] at c
        refine mj_T.pl rfl rfl rfl rfl ?_
        refine mj_T.l2i rfl ?_
        refine mj_T.ret rfl rfl rfl ⟨_, q + k, _, Y, t, rfl, ⟨rvl T q k, ⟨by omega, by omega⟩, rfl⟩, k2, Or.inl ?_⟩
        rw [if_pos ⟨⟨kp, k3⟩, c⟩]
        exact ⟨rfl, rfl, by omega, s3, rfl, rfl, _, rfl, ⟨hbd.1, c⟩, by rw [eV, k1, Nat.add_sub_cancel_left]⟩
      · simp only [jc, decide_eq_false_iff_not] at c
        iterate 2 refine mj_T.pl rfl rfl rfl rfl ?_
        refine rm_p3 s3 rfl (fun h4 s4 => ?_)
        refine mj_T.pl rfl rfl rfl rfl ?_
        refine mj_T.ret rfl rfl rfl ⟨_, q + k, h4, Y, t, rfl, ⟨-1, ⟨by decide, by decide⟩, rfl⟩, k2, Or.inr ?_⟩
        rw [if_neg (fun w => c w.2)]
        exact ⟨rfl, hle, s4.mono (fun c hc => hc.elim)⟩
    · cases hq
      refine mj_T.pl (loc' := [some (.ref 455), some (.int (jn (q : Int))), some (.long (jl 0)), none]) rfl rfl rfl rfl ?_
      refine mj_T.pl rfl rfl rfl rfl ?_
      refine mj_T.pl rfl rfl rfl rfl ?_
      refine mj_T.eq (st2 := [.long (jl 12), .long (jl 0)]) ?_ rfl rfl rfl rfl
      refine mj_T.lif (a := 0) (b := 12) rfl rfl ⟨by decide, by decide⟩ ⟨by decide, by decide⟩ (fun c => ?_) (fun c => by simp [jc] at c)
      refine mj_T.pl rfl rfl rfl rfl ?_
      refine mj_T.l2i rfl ?_
      refine mj_T.ret rfl rfl rfl ⟨_, q + k, _, Y, t, rfl, ⟨0, ⟨by decide, by decide⟩, rfl⟩, k2, Or.inr ?_⟩
      rw [if_neg (fun w => by omega)]
      exact ⟨rfl, hle, s3.mono (fun c hc => hc.elim)⟩
  · cases hq'
    obtain ⟨k, k1⟩ : ∃ k, rdgp T tm q = q + k := ⟨rdgp T tm q - q, by have w : q ≤ rdgp T tm q := rdg_ge (T := T) (tm - q) q; omega⟩
    have k0 : ¬ (1 ≤ k) := fun w => by
      have d := (rdgp_pos k1).mp w
      exact hd (by rw [show rvt T tm q = T q from if_pos d.1]; exact d.2)
    refine mj_T.if0 (a := 0) rfl ⟨by decide, by decide⟩ (fun hc2 => by simp [jc] at hc2) (fun _ => ?_)
    iterate 2 refine mj_T.pl rfl rfl rfl rfl ?_
    refine rm_g s1 rfl rfl ?_
    refine rm_p3 s1 rfl (fun h2 s2 => ?_)
    refine mj_T.pl rfl rfl rfl rfl ?_
    refine mj_T.ret rfl rfl rfl ⟨_, q, h2, Y, t, rfl, ⟨-1, ⟨by decide, by decide⟩, rfl⟩, hle, Or.inr ?_⟩
    rw [k1, Nat.add_sub_cancel_left, if_neg (fun w => k0 w.1.1)]
    exact ⟨rfl, hle, s2.mono (fun c hc => hc.elim)⟩
theorem rm_fin {a p : Nat} {l1 : Option Value} (hB : bX X0 tm T) (ht : tm ≤ 200) (hT : ∀ j : Nat, j < tm → 1 ≤ T j ∧ T j ≤ 255) (hp : p ≤ tm) (hap : a ≤ p) (s : rM g n X0 Z Y t (p : Int) (-1) h) : mj_T (D + 4) mj_m52 135 [some (.ref 455), l1] [] h (rQm T tm g n X0 Z a (rex T tm p) rV (UE T tm Y t p)) := by
  have hge := rskp_ge (T := T) (tm := tm) p
  have hle := rskp_le (T := T) hp
  refine mj_T.pl rfl rfl rfl rfl ?_
  refine rm_g s rfl rfl ?_
  refine mj_T.pl rfl rfl rfl rfl ?_
  refine mj_T.icmp (a := -1) (b := -1) rfl ⟨by decide, by decide⟩ ⟨by decide, by decide⟩ (fun c => absurd c (by decide)) (fun _ => ?_)
  iterate 2 refine mj_T.pl rfl rfl rfl rfl ?_
  refine mj_T.call rfl rfl (Nat.le_of_ble_eq_true rfl) (Nat.le_of_ble_eq_true rfl) (s.rv (by decide) rfl _) rfl (rm_takes (D := D + 1) (c := 94) ⟨by decide, by decide⟩ hB ht hT hp s) (fun v h1 hq => ?_) (fun i h1 hq => by rcases hq with ⟨_, _, _, _, hq⟩ | ⟨_, _, _, hq⟩ <;> cases hq)
  rcases hq with ⟨b, _, ⟨b1, b2, b3⟩, s1, hq⟩ | ⟨_, b1, s1, hq⟩
  · cases hq
    refine mj_T.if0 (a := 1) rfl ⟨by decide, by decide⟩ (fun hc2 => by simp [jc] at hc2) (fun _ => ?_)
    refine mj_T.pl rfl rfl rfl rfl ?_
    have er : rex T tm p = rnm T tm 12 b := by unfold rex; rw [b1]
    rw [er]
    refine mj_T.call rfl rfl (Nat.le_of_ble_eq_true rfl) (Nat.le_of_ble_eq_true rfl) (s1.rv (by decide) rfl _) rfl (rm_exponent (D := D + 1) hB ht hT b2 s1) (fun v h2 hq => ?_) (fun i h2 hq => by obtain ⟨_, _, _, _, _, hq, _⟩ := hq; cases hq)
    obtain ⟨v2, c, h3, Y3, t3, hq, hv, c1, c2⟩ := hq
    obtain ⟨z, hz, rfl⟩ := hv
    cases hq
    refine mj_T.pl rfl rfl rfl rfl ?_
    refine mj_T.ret rfl rfl rfl (rQm.le (a' := b) (U := fun Y2 t2 v => Y2 = Y ∧ t2 = t ∧ ∃ z : Int, v = some (.int (jn z)) ∧ (0 ≤ z ∧ z ≤ 12) ∧ z = rnv T tm b) ⟨_, c, _, Y3, t3, rfl, ⟨z, hz, rfl⟩, c1, c2⟩ (by omega) (fun Y2 t2 v hu => ?_))
    obtain ⟨u1, u2, z2, u3, u4, u5⟩ := hu
    exact ⟨u1, u2, z2, u3, ⟨by omega, u4.2⟩, Or.inr ⟨b, b1, u5, u4.1⟩⟩
  · cases hq
    refine mj_T.if0 (a := 0) rfl ⟨by decide, by decide⟩ (fun _ => ?_) (fun hc2 => by simp [jc] at hc2)
    have er : rex T tm p = (true, rskp T tm p) := by unfold rex; rw [b1]
    rw [er]
    refine mj_T.pl rfl rfl rfl rfl ?_
    exact mj_T.ret rfl rfl rfl ⟨_, rskp T tm p, h1, Y, t, rfl, ⟨-1, ⟨by decide, by decide⟩, rfl⟩, hle, Or.inl ⟨rfl, rfl, by omega, s1, rfl, rfl, -1, rfl, ⟨by decide, by decide⟩, Or.inl ⟨b1, rfl⟩⟩⟩
theorem rm_finE {a p x : Nat} {Z2 : Nat → Prop} {U : (Nat → Nat → Int) → Int → Option Value → Prop} {l1 : Option Value} (ht : tm ≤ 200) (hp : p ≤ tm) (hx : x ≤ tm) (s : rM g n X0 Z Y t (p : Int) (x : Int) h) : mj_T (D + 4) mj_m52 135 [some (.ref 455), l1] [] h (rQm T tm g n X0 Z2 a (false, x) rV U) := by
  refine mj_T.pl rfl rfl rfl rfl ?_
  refine rm_g s rfl rfl ?_
  refine mj_T.pl rfl rfl rfl rfl ?_
  refine mj_T.icmp (a := (x : Int)) (b := -1) rfl ⟨by omega, by omega⟩ ⟨by decide, by decide⟩ (fun _ => ?_) (fun c => ?_)
  · refine mj_T.pl rfl rfl rfl rfl ?_
    exact mj_T.ret rfl rfl rfl ⟨_, p, h, Y, t, rfl, ⟨-1, ⟨by decide, by decide⟩, rfl⟩, hp, Or.inr ⟨rfl, hx, s.mono (fun c hc => hc.elim)⟩⟩
  · simp only [jc, Bool.not_eq_false', decide_eq_true_eq] at c
    omega
theorem rm_factor {d a f : Nat} {res : Bool × Nat} (hB : bX X0 tm T) (ht : tm ≤ 200) (hT : ∀ j : Nat, j < tm → 1 ≤ T j ∧ T j ≤ 255) (hd : d ≤ 8) {E : Nat} (hE : 5 ≤ E) (htt : t = 0 ∨ t = 1)
    (ih : ∀ d', d = d' + 1 → ∀ (f p : Nat) (h : mj_H) (res : Bool × Nat) (Y : Nat → Nat → Int) (t : Int), (t = 0 ∨ t = 1) → p ≤ tm → rpr0 T tm f 3 d' p = some res → rM g n X0 (zkS (8 - d')) Y t (p : Int) (-1) h → mj_Ok E 49 [.ref 455, .int (jn (8 - (d' : Int)))] h (rQm T tm g n X0 (zkP (8 - d')) p res rV0 (US d' Y t (zv0 T tm f 3 d' p none 1))))
    (ha : a ≤ tm) (hf : rpr0 T tm f 0 d a = some res) (s : rM g n X0 (zkF (8 - d)) Y t (a : Int) (-1) h) : mj_Ok (E + 1) 52 [.ref 455, .int (jn (8 - (d : Int)))] h (rQm T tm g n X0 (zkG (8 - d)) a res rV (UF d Y t (zv0 T tm f 0 d a none 1))) := by
  obtain ⟨E0, rfl⟩ : ∃ E0, E = E0 + 5 := ⟨E - 5, by omega⟩
  have hge := rskp_ge (T := T) (tm := tm) a
  have hle := rskp_le (T := T) ha
  have hid := rskp_idem (T := T) ha
  obtain ⟨f, rfl⟩ : ∃ f0, f = f0 + 1 := by
    cases f with
    | zero => cases hf
    | succ f0 => exact ⟨f0, rfl⟩
  refine mj_Ok.of (M := mj_m52) (loc := [some (.ref 455), some (.int (jn (8 - (d : Int))))]) rfl rfl rfl ?_
  refine mj_T.pl rfl rfl rfl rfl ?_
  refine rm_g s rfl rfl ?_
  refine mj_T.call rfl rfl (Nat.le_of_ble_eq_true rfl) (Nat.le_of_ble_eq_true rfl) rfl rfl (mj_Ok.up (by omega) (rm_165 (D := 0) (Z' := zkG (8 - d)) s isRw.f (fun c hc => hc.symm))) (fun v h0 hq => ?_) (fun i h0 hq => by obtain ⟨_, _, hq⟩ := hq; cases hq)
  obtain ⟨_, s, hq⟩ := hq
  cases hq
  have y476 : ∀ w : Nat → Int, ∀ c, c ≤ 457 + (8 - d) ∨ (467 ≤ c ∧ c ≤ 467 + (8 - d)) → rwu (rwu Y 476 (fun _ => 0)) 476 w c = Y c := fun w c hc => by
    rw [rwu_ne _ _ (by omega), rwu_ne _ _ (by omega)]
  refine mj_T.pl rfl rfl rfl rfl ?_
  refine mj_T.call rfl rfl (Nat.le_of_ble_eq_true rfl) (Nat.le_of_ble_eq_true rfl) (s.rv (by decide) rfl _) rfl (mj_Ok.up (by omega) (rm_skips (D := 0) hB ht hT ha s)) (fun v h1 hq => ?_) (fun i h1 hq => by obtain ⟨_, _, hq⟩ := hq; cases hq)
  obtain ⟨_, s1, hq⟩ := hq
  cases hq
  obtain ⟨q, hqd⟩ : ∃ q, rskp T tm a = q := ⟨_, rfl⟩
  have eVal : zv0 T tm (f + 1) 0 d a none 1 = if q < tm ∧ T q = 120 then zvx T tm (some pz_x) (q + 1) else if q < tm ∧ T q = 40 then (match rpr0 T tm f 3 (d - 1) (q + 1) with | some (true, c) => (match rtk T tm 41 c with | some e => zvx T tm (zv0 T tm f 3 (d - 1) (q + 1) none 1) e | none => none) | _ => none) else zvx T tm (some (pz_k (rnv T tm a))) (rdgp T tm q) := by
    rw [← hqd]
    rfl
  have eNv : rnv T tm a = rvl T q (rdgp T tm q - q) := by
    unfold rnv
    rw [hqd]
  unfold rpr0 at hf
  rw [hqd] at s1 hle hge hid hf
  refine mj_T.pl rfl rfl rfl rfl ?_
  refine rm_g s1 rfl rfl ?_
  refine mj_T.pl rfl rfl rfl rfl ?_
  refine rm_g s1 rfl rfl ?_
  refine rm_at (D := E0 + 4) s1 hB ht hT (by omega) rfl rfl (Nat.le_of_ble_eq_true rfl) ?_
  have hb := rvt_bd (tm := tm) hT q
  refine mj_T.call rfl rfl (Nat.le_of_ble_eq_true rfl) (Nat.le_of_ble_eq_true rfl) rfl rfl (rq_isDigit (D := E0 + 4) (v := rvt T tm q) ⟨by omega, by omega⟩) (fun v' h' hq' => ?_) (fun i h' hq' => by rcases hq' with ⟨_, h⟩ | ⟨_, h⟩ <;> cases h)
  rcases hq' with ⟨hdg, hq'⟩ | ⟨hdg, hq'⟩
  · -- a number
    cases hq'
    have hdig : q < tm ∧ 48 ≤ T q ∧ T q ≤ 57 := by
      unfold rvt at hdg
      by_cases c : q < tm
      · rw [if_pos c] at hdg
        exact ⟨c, hdg⟩
      · rw [if_neg c] at hdg
        omega
    rw [if_neg (by omega), if_neg (by omega)] at hf
    have eN : rnm T tm 9223372036854775807 q = if (1 ≤ rdgp T tm q - q ∧ rdgp T tm q - q ≤ 18) ∧ rvl T q (rdgp T tm q - q) ≤ 9223372036854775807 then (true, rdgp T tm q) else (false, q) := by
      unfold rnm
      rw [hid]
    rw [eN] at hf
    refine mj_T.if0 (a := 1) rfl ⟨by decide, by decide⟩ (fun hc2 => by simp [jc] at hc2) (fun _ => ?_)
    refine mj_T.pl rfl rfl rfl rfl ?_
    refine rm_g s1 rfl rfl ?_
    iterate 2 refine mj_T.pl rfl rfl rfl rfl ?_
    refine mj_T.call rfl rfl (Nat.le_of_ble_eq_true rfl) (Nat.le_of_ble_eq_true rfl) (s1.rv (by decide) rfl _) rfl (mj_Ok.up (by omega) (rm_number (D := 0) hB ht hT hle s1)) (fun v h2 hq => ?_) (fun i h2 hq => by obtain ⟨_, _, _, _, ⟨_, _, hq⟩ | ⟨_, _, hq⟩⟩ := hq <;> cases hq)
    obtain ⟨k, h3, k1, k2, hq⟩ := hq
    have kp := (rdgp_pos k1).mpr hdig
    rw [k1, Nat.add_sub_cancel_left] at hf
    have hin : ∀ j, q ≤ j → j < q + k → 48 ≤ T j ∧ T j ≤ 57 := fun j j1 j2 => rdg_in (T := T) (tm - q) q j j1 (by show j < rdgp T tm q; omega)
    have hbd := rvl_bd (T := T) (s := q) k hin
    rcases hq with ⟨k3, s3, hq⟩ | ⟨k3, s3, hq⟩
    · cases hq
      have hpw : 10 ^ k ≤ 10 ^ 18 := Nat.pow_le_pow_right (by decide) (by omega)
      rw [if_pos ⟨⟨kp, k3⟩, by omega⟩] at hf
      cases hf
      refine rm_last (i := 0) s3 (Or.inr rfl) rfl ⟨by decide, by decide⟩ (by omega) (fun h4 s4 => ?_)
      refine mj_T.pl rfl rfl rfl rfl ?_
      refine mj_T.to (rm_fin hB ht hT k2 (by omega) s4) (fun r hr => hr.le (Nat.le_refl _) (fun Y2 t2 v hu => ?_))
      obtain ⟨rfl, rfl, z, u3, u4, u5⟩ := hu
      rw [eVal, if_neg (by omega), if_neg (by omega), eNv, k1, Nat.add_sub_cancel_left]
      refine ⟨z, _, u3, u4, zF_of u5, ⟨htt, Or.inl ⟨_, rfl, fit_k (by omega), rfl, fun j hj => ?_⟩⟩, y476 _⟩
      rw [rwu_at, rwu_at]
      rfl
    · cases hq
      rw [if_neg (fun w => by omega)] at hf
      cases hf
      refine rm_last (i := 0) s3 (Or.inr rfl) rfl ⟨by decide, by decide⟩ (by decide) (fun h4 s4 => ?_)
      refine mj_T.pl rfl rfl rfl rfl ?_
      exact rm_finE ht k2 hle s4
  · cases hq'
    refine mj_T.if0 (a := 0) rfl ⟨by decide, by decide⟩ (fun _ => ?_) (fun hc2 => by simp [jc] at hc2)
    have ndig : ¬ (q < tm ∧ 48 ≤ T q ∧ T q ≤ 57) := fun w => hdg (by rw [show rvt T tm q = T q from if_pos w.1]; exact w.2)
    iterate 2 refine mj_T.pl rfl rfl rfl rfl ?_
    refine mj_T.call rfl rfl (Nat.le_of_ble_eq_true rfl) (Nat.le_of_ble_eq_true rfl) (s1.rv (by decide) rfl _) rfl (mj_Ok.up (by omega) (rm_takes (D := 0) (c := 120) ⟨by decide, by decide⟩ hB ht hT hle s1)) (fun v h2 hq => ?_) (fun i h2 hq => by rcases hq with ⟨_, _, _, _, hq⟩ | ⟨_, _, _, hq⟩ <;> cases hq)
    rcases hq with ⟨b, _, ⟨b1, b2, b3⟩, s2, hq⟩ | ⟨_, b1, s2, hq⟩
    · -- the letter x
      cases hq
      unfold rtk at b1
      rw [hid] at b1
      by_cases c : q < tm ∧ T q = 120
      · rw [if_pos c] at b1
        cases b1
        rw [if_pos c] at hf
        cases hf
        refine mj_T.if0 (a := 1) rfl ⟨by decide, by decide⟩ (fun hc2 => by simp [jc] at hc2) (fun _ => ?_)
        refine mj_T.pl rfl rfl rfl rfl ?_
        refine rm_g s2 rfl rfl ?_
        refine mj_T.pl rfl rfl rfl rfl ?_
        refine jT.lc 1 rfl rfl ?_
        refine rm_last (i := 1) s2 (Or.inr rfl) rfl ⟨by decide, by decide⟩ (by decide) (fun h4 s4 => ?_)
        refine mj_T.pl rfl rfl rfl rfl ?_
        refine mj_T.to (rm_fin hB ht hT b2 (by omega) s4) (fun r hr => hr.le (Nat.le_refl _) (fun Y2 t2 v hu => ?_))
        obtain ⟨rfl, rfl, z, u3, u4, u5⟩ := hu
        rw [eVal, if_pos c]
        refine ⟨z, _, u3, u4, zF_of u5, ⟨htt, Or.inl ⟨_, rfl, fit_x, rfl, fun j hj => ?_⟩⟩, y476 _⟩
        rw [rwu_at, rwu_at]
        rfl
      · rw [if_neg c] at b1
        cases b1
    · cases hq
      rw [hid] at s2
      have nx : ¬ (q < tm ∧ T q = 120) := fun w => by
        unfold rtk at b1
        rw [hid, if_pos w] at b1
        cases b1
      rw [if_neg nx] at hf
      refine mj_T.if0 (a := 0) rfl ⟨by decide, by decide⟩ (fun _ => ?_) (fun hc2 => by simp [jc] at hc2)
      -- nothing fits: the error is here
      have bad : ∀ h2, rM g n X0 (zkG (8 - d)) (rwu Y 476 (fun _ => 0)) t (q : Int) (-1) h2 → res = (false, q) → mj_T (E0 + 5) mj_m52 127 [some (.ref 455), some (.int (jn (8 - (d : Int))))] [] h2 (rQm T tm g n X0 (zkG (8 - d)) a res rV (UF d Y t (zv0 T tm (f + 1) 0 d a none 1))) := fun h2 s2 er => by
        subst er
        iterate 2 refine mj_T.pl rfl rfl rfl rfl ?_
        refine rm_g s2 rfl rfl ?_
        refine rm_p3 s2 rfl (fun h3 s3 => ?_)
        exact rm_finE ht hle hle s3
      have num : ¬ (q < tm ∧ T q = 40) → res = (false, q) := fun w => by
        rw [if_neg w] at hf
        obtain ⟨k, k1⟩ : ∃ k, rdgp T tm q = q + k := ⟨rdgp T tm q - q, by have w : q ≤ rdgp T tm q := rdg_ge (T := T) (tm - q) q; omega⟩
        have k0 : ¬ (1 ≤ k) := fun w => ndig ((rdgp_pos k1).mp w)
        have eN : rnm T tm 9223372036854775807 q = (false, q) := by
          unfold rnm
          rw [hid, k1, Nat.add_sub_cancel_left, if_neg (fun w => k0 w.1.1)]
        rw [eN] at hf
        cases hf
        rfl
      iterate 2 refine mj_T.pl rfl rfl rfl rfl ?_
      refine mj_T.icmp (a := 8 - (d : Int)) (b := 8) rfl ⟨by omega, by omega⟩ ⟨by decide, by decide⟩ (fun c => ?_) (fun c => ?_)
      · simp only [jc, decide_eq_true_eq] at c
        have d0 : d = 0 := by omega
        subst d0
        refine bad _ s2 ?_
        by_cases w : q < tm ∧ T q = 40
        · rw [if_pos w, if_pos rfl] at hf
          cases hf
          rfl
        · exact num w
      simp only [jc, decide_eq_false_iff_not] at c
      obtain ⟨d', rfl⟩ : ∃ d', d = d' + 1 := ⟨d - 1, by omega⟩
      iterate 2 refine mj_T.pl rfl rfl rfl rfl ?_
      refine mj_T.call rfl rfl (Nat.le_of_ble_eq_true rfl) (Nat.le_of_ble_eq_true rfl) (s2.rv (by decide) rfl _) rfl (mj_Ok.up (by omega) (rm_takes (D := 0) (c := 40) ⟨by decide, by decide⟩ hB ht hT hle s2)) (fun v h3 hq => ?_) (fun i h3 hq => by rcases hq with ⟨_, _, _, _, hq⟩ | ⟨_, _, _, hq⟩ <;> cases hq)
      rcases hq with ⟨b, _, ⟨b1, b2, b3⟩, s3, hq⟩ | ⟨_, b1, s3, hq⟩
      rotate_left
      · cases hq
        rw [hid] at s3
        have n40 : ¬ (q < tm ∧ T q = 40) := fun w => by
          unfold rtk at b1
          rw [hid, if_pos w] at b1
          cases b1
        refine mj_T.if0 (a := 0) rfl ⟨by decide, by decide⟩ (fun _ => ?_) (fun hc2 => by simp [jc] at hc2)
        exact bad _ s3 (num n40)
      -- a sum in parentheses
      cases hq
      unfold rtk at b1
      rw [hid] at b1
      by_cases w : q < tm ∧ T q = 40
      rotate_left
      · rw [if_neg w] at b1
        cases b1
      rw [if_pos w] at b1
      cases b1
      rw [if_pos w, if_neg (Nat.succ_ne_zero d')] at hf
      refine mj_T.if0 (a := 1) rfl ⟨by decide, by decide⟩ (fun hc2 => by simp [jc] at hc2) (fun _ => ?_)
      iterate 3 refine mj_T.pl rfl rfl rfl rfl ?_
      refine mj_T.iadd (a := 8 - ((d' + 1 : Nat) : Int)) (b := 1) rfl ?_
      rw [show 8 - ((d' + 1 : Nat) : Int) + 1 = 8 - (d' : Int) by omega]
      -- behind the sum: copy it, go on
      have t107 : ∀ (Y3 : Nat → Nat → Int) (t3 : Int) (b : Nat) (x : Int) (h4 : mj_H) (Z4 Z5 : Nat → Prop) (Y5 : Nat → Nat → Int), rM g n X0 Z4 Y3 t3 (b : Int) x h4 → mj_Ok 1 164 [.ref (457 + (8 - d')), .ref 476] h4 (fun z => ∃ h5, rM g n X0 Z5 Y5 t3 (b : Int) x h5 ∧ z = (.inl none, h5)) → (∀ h5, rM g n X0 Z5 Y5 t3 (b : Int) x h5 → mj_T (E0 + 5) mj_m52 135 [some (.ref 455), some (.int (jn (8 - ((d' + 1 : Nat) : Int))))] [] h5 (rQm T tm g n X0 (zkG (8 - (d' + 1))) a res rV (UF (d' + 1) Y t (zv0 T tm (f + 1) 0 (d' + 1) a none 1)))) → mj_T (E0 + 5) mj_m52 107 [some (.ref 455), some (.int (jn (8 - ((d' + 1 : Nat) : Int))))] [] h4 (rQm T tm g n X0 (zkG (8 - (d' + 1))) a res rV (UF (d' + 1) Y t (zv0 T tm (f + 1) 0 (d' + 1) a none 1))) := fun Y3 t3 b x h4 Z4 Z5 Y5 s4 k164 k => by
        refine mj_T.pl rfl rfl rfl rfl ?_
        refine rm_g s4 rfl rfl ?_
        iterate 2 refine mj_T.pl rfl rfl rfl rfl ?_
        refine mj_T.iadd (a := 8 - ((d' + 1 : Nat) : Int)) (b := 1) rfl ?_
        rw [show 8 - ((d' + 1 : Nat) : Int) + 1 = ((8 - d' : Nat) : Int) by omega]
        refine mj_T.call rfl rfl (Nat.le_of_ble_eq_true rfl) (Nat.le_of_ble_eq_true rfl) rfl rfl (mj_Ok.up (by omega) (rm_48 (D := 0) (b := 456) (k := 8 - d') s4 (Or.inl rfl) (by omega))) (fun v h5 hq => ?_) (fun i h5 hq => by cases hq)
        cases hq
        refine mj_T.eq (st2 := [.ref (457 + (8 - d'))]) ?_ rfl rfl rfl rfl
        refine mj_T.pl rfl rfl rfl rfl ?_
        refine rm_g s4 rfl rfl ?_
        refine mj_T.call rfl rfl (Nat.le_of_ble_eq_true rfl) (Nat.le_of_ble_eq_true rfl) rfl rfl (mj_Ok.up (by omega) k164) (fun v h5 hq => ?_) (fun i h5 hq => by obtain ⟨_, _, hq⟩ := hq; cases hq)
        obtain ⟨_, s5, hq⟩ := hq
        cases hq
        refine mj_T.pl rfl rfl rfl rfl ?_
        exact k _ s5
      cases hsum : rpr0 T tm f 3 d' (q + 1) with
      | none =>
        rw [show d' + 1 - 1 = d' from rfl, hsum] at hf
        cases hf
      | some rs =>
        rw [show d' + 1 - 1 = d' from rfl, hsum] at hf
        refine mj_T.call rfl rfl (Nat.le_of_ble_eq_true rfl) (Nat.le_of_ble_eq_true rfl) (s3.rv (by decide) rfl _) rfl (ih d' rfl f (q + 1) h3 rs _ t htt b2 hsum (s3.mono (fun c hc => by unfold zkS at hc; unfold zkG zkF; omega))) (fun v h4 hq => ?_) (fun i h4 hq => by obtain ⟨_, _, _, _, _, hq, _⟩ := hq; cases hq)
        obtain ⟨v2, c2, h5, Y3, t3, hq, hv, c3, c4⟩ := hq
        cases hv
        cases hq
        obtain ⟨ok, x⟩ := rs
        rcases c4 with ⟨e1, e2, e3, s4, hU⟩ | ⟨e1, e2, s4⟩
        · have e1 : ok = true := e1
          have e2 : c2 = x := e2
          subst e1 e2
          simp only at hf
          refine mj_T.pl rfl rfl rfl rfl ?_
          refine rm_g s4 rfl rfl ?_
          refine mj_T.pl rfl rfl rfl rfl ?_
          refine mj_T.icmp (a := -1) (b := -1) rfl ⟨by decide, by decide⟩ ⟨by decide, by decide⟩ (fun c => absurd c (by decide)) (fun _ => ?_)
          iterate 2 refine mj_T.pl rfl rfl rfl rfl ?_
          refine mj_T.call rfl rfl (Nat.le_of_ble_eq_true rfl) (Nat.le_of_ble_eq_true rfl) (s4.rv (by decide) rfl _) rfl (mj_Ok.up (by omega) (rm_takes (D := 0) (c := 41) ⟨by decide, by decide⟩ hB ht hT c3 s4)) (fun v h6 hq => ?_) (fun i h6 hq => by rcases hq with ⟨_, _, _, _, hq⟩ | ⟨_, _, _, hq⟩ <;> cases hq)
          rcases hq with ⟨b6, _, ⟨g1, g2, g3⟩, s6, hq⟩ | ⟨_, g1, s6, hq⟩
          · cases hq
            rw [g1] at hf
            cases hf
            refine mj_T.if0 (a := 1) rfl ⟨by decide, by decide⟩ (fun _ => ?_) (fun hc2 => by simp [jc] at hc2)
            refine t107 Y3 t3 b6 (-1) h6 _ _ _ s6 (rm_164 (D := 0) (Z' := zkG (8 - (d' + 1))) s6 (show zkP (8 - d') (457 + (8 - d')) from Or.inl ⟨by omega, by omega⟩) isRw.f (fun c hc => by unfold zkG zkF at hc; unfold zkP; omega)) (fun h7 s7 => mj_T.to (rm_fin hB ht hT g2 (by omega) s7) (fun r hr => hr.le (Nat.le_refl _) (fun Y2 t2 v hu => ?_)))
            obtain ⟨rfl, rfl, z, u3, u4, u5⟩ := hu
            have hc9 : ¬ (q < tm ∧ T q = 120) := by omega
            rw [eVal, if_neg hc9, if_pos w, show d' + 1 - 1 = d' from rfl, hsum]
            show UF (d' + 1) Y t (match rtk T tm 41 c2 with | some e => zvx T tm (zv0 T tm f 3 d' (q + 1) none 1) e | none => none) _ _ _
            rw [g1]
            refine ⟨z, _, u3, u4, zF_of u5, ?_, fun c hc => ?_⟩
            · rw [rwu_at]
              exact hU.1
            · rw [rwu_ne _ _ (by omega), hU.2 c (by omega), rwu_ne _ _ (by omega)]
          · cases hq
            rw [g1] at hf
            cases hf
            have hl6 := rskp_le (T := T) c3
            refine mj_T.if0 (a := 0) rfl ⟨by decide, by decide⟩ (fun hc2 => by simp [jc] at hc2) (fun _ => ?_)
            iterate 2 refine mj_T.pl rfl rfl rfl rfl ?_
            refine rm_g s6 rfl rfl ?_
            refine rm_p3 s6 rfl (fun h7 s7 => ?_)
            exact t107 _ _ _ _ h7 _ _ _ s7 (rm_164l (D := 0) s7 (isRw.s (by omega)) isRw.f) (fun h8 s8 => rm_finE ht hl6 hl6 s8)
        · have e1 : ok = false := e1
          subst e1
          simp only at hf e2 s4
          cases hf
          refine mj_T.pl rfl rfl rfl rfl ?_
          refine rm_g s4 rfl rfl ?_
          refine mj_T.pl rfl rfl rfl rfl ?_
          refine mj_T.icmp (a := (x : Int)) (b := -1) rfl ⟨by omega, by omega⟩ ⟨by decide, by decide⟩ (fun _ => ?_) (fun c => ?_)
          · exact t107 _ _ c2 (x : Int) h4 _ _ _ s4 (rm_164l (D := 0) s4 (isRw.s (by omega)) isRw.f) (fun h7 s7 => rm_finE ht c3 e2 s7)
          · simp only [jc, Bool.not_eq_false', decide_eq_true_eq] at c
            omega
end JRE2
/-! The class's reader over the memory: products and sums. -/
section JRF2
variable {D tm n : Nat} {T : Nat → Int} {g h h' : mj_H} {a e t : Int} {X0 Y : Nat → Nat → Int} {Z : Nat → Prop}
/-- check (51): what is too great becomes 0 -/
theorem rm_check {r : Nat} {ok : Prop} {w : Nat → Int} {zz : Int} (kr : isRw r) (ht : t = 0 ∨ t = 1) (s : (ok ∧ zz = 1 ∧ rM g n X0 Z (rwu Y r w) t a e h) ∨ (¬ ok ∧ zz = 0 ∧ rM g n X0 (fun c => c ≠ r ∧ Z c) Y t a e h)) : mj_Ok (D + 2) 51 [.ref 455, .int (jn zz), .ref r] h (fun z => ∃ h2, z = (.inl none, h2) ∧ ((ok ∧ rM g n X0 Z (rwu Y r w) t a e h2) ∨ (¬ ok ∧ rM g n X0 Z (rwu Y r (fun _ => 0)) 1 a e h2))) := by
  refine mj_Ok.of (M := mj_m51) (loc := [some (.ref 455), some (.int (jn zz)), some (.ref r)]) rfl rfl rfl ?_
  refine mj_T.pl rfl rfl rfl rfl ?_
  rcases s with ⟨o, rfl, s⟩ | ⟨o, rfl, s⟩
  · refine mj_T.if0 (a := 1) rfl ⟨by decide, by decide⟩ (fun _ => ?_) (fun c => by simp [jc] at c)
    exact mj_T.ret rfl rfl rfl ⟨h, rfl, Or.inl ⟨o, s⟩⟩
  · refine mj_T.if0 (a := 0) rfl ⟨by decide, by decide⟩ (fun c => by simp [jc] at c) (fun _ => ?_)
    iterate 2 refine mj_T.pl rfl rfl rfl rfl ?_
    refine rm_p4 (b := 1) (Or.inr rfl) s rfl (fun h1 s1 => ?_)
    refine mj_T.pl rfl rfl rfl rfl ?_
    refine mj_T.call rfl rfl (Nat.le_of_ble_eq_true rfl) (Nat.le_of_ble_eq_true rfl) rfl rfl (rm_165 (D := D) (Z' := Z) s1 kr (fun c hc => by
      by_cases q : c = r
      · exact Or.inl q
      · exact Or.inr ⟨q, hc⟩)) (fun v h2 hq => ?_) (fun i h2 hq => by obtain ⟨_, _, hq⟩ := hq; cases hq)
    obtain ⟨_, s2, hq⟩ := hq
    cases hq
    exact mj_T.ret rfl rfl rfl ⟨h2, rfl, Or.inr ⟨o, s2⟩⟩
theorem jn_inj {x y : Int} (hx : -2147483648 ≤ x ∧ x ≤ 2147483647) (hy : -2147483648 ≤ y ∧ y ≤ 2147483647) (h : jn x = jn y) : x = y := (jn_eq (show jr x from ⟨by omega, by omega⟩) (show jr y from ⟨by omega, by omega⟩)).mp h
theorem rM.rv19 {Z : Nat → Prop} {r2 : Nat} {st : List Value} (s : rM g n X0 Z Y t a e h) (hr : 1 ≤ r2) (hd : st.drop (r2 - 1) = .ref 19 :: st.drop r2) : ∀ m, mj_recv (.invokevirtual m) r2 1 st h = true := by
  intro m
  obtain ⟨V, X, mm, _⟩ := s
  exact mV_of mm 11 cq_456.2.2.2.2.2.1 (by decide) rfl hr hd m
theorem rm_product_loop {d E a0 : Nat} (hB : bX X0 tm T) (ht : tm ≤ 200) (hT : ∀ j : Nat, j < tm → 1 ≤ T j ∧ T j ≤ 255) (hd : d ≤ 8)
    (ih : ∀ (f p : Nat) (h : mj_H) (res : Bool × Nat) (Y : Nat → Nat → Int) (t : Int), (t = 0 ∨ t = 1) → p ≤ tm → rpr0 T tm f 0 d p = some res → rM g n X0 (zkF (8 - d)) Y t (p : Int) (-1) h → mj_Ok (E + 6) 52 [.ref 455, .int (jn (8 - (d : Int)))] h (rQm T tm g n X0 (zkG (8 - d)) p res rV (UF d Y t (zv0 T tm f 0 d p none 1)))) (Y0 : Nat → Nat → Int) (t0 : Int) : ∀ (f p i : Nat) (h : mj_H) (res : Bool × Nat) (l4 : Option Value) (Y : Nat → Nat → Int) (t : Int) (P : Option pz_P), U0 P t0 t (Y (467 + (8 - d))) → (∀ c, c ≤ 457 + (8 - d) ∨ (467 ≤ c ∧ c < 467 + (8 - d)) → Y c = Y0 c) → p ≤ tm → i ≤ p → a0 ≤ p → rpr0 T tm f 1 d p = some res → rM g n X0 (zkF (8 - d)) Y t (p : Int) (-1) h → mj_T (E + 6) mj_m50 19 [some (.ref 455), some (.int (jn (8 - (d : Int)))), some (.ref (467 + (8 - d))), some (.int (jn (i : Int))), l4] [] h (rQm T tm g n X0 (zkF (8 - d)) a0 res rV0 (UP d Y0 t0 (zv0 T tm f 1 d p P 1))) := by
  intro f
  induction f with
  | zero => intro p i h res l4 Y t P _ _ _ _ _ hf; cases hf
  | succ f ihf =>
    intro p i h res l4 Y t P hu hfr hp hi ha hf s
    have b := s.jBuf hB
    have kr : isRw (467 + (8 - d)) := isRw.p (by omega)
    have eVal : zv0 T tm (f + 1) 1 d p P 1 = match rpr0 T tm f 0 d p with | some (true, c) => (match rtk T tm 42 c with | none => zvm P (zv0 T tm f 0 d p none 1) | some e => zv0 T tm f 1 d e (zvm P (zv0 T tm f 0 d p none 1)) 1) | _ => none := rfl
    unfold rpr0 at hf
    iterate 2 refine mj_T.pl rfl rfl rfl rfl ?_
    refine rm_g s rfl rfl ?_
    refine mj_T.gfl rfl b.1 rfl ?_
    refine mj_T.icmp (a := (i : Int)) (b := (tm : Int)) rfl ⟨by omega, by omega⟩ ⟨by omega, by omega⟩ (fun c => ?_) (fun _ => ?_)
    · have c := of_decide_eq_true c
      omega
    iterate 2 refine mj_T.pl rfl rfl rfl rfl ?_
    cases hfa : rpr0 T tm f 0 d p with
    | none => rw [hfa] at hf; cases hf
    | some rs =>
      rw [hfa] at hf eVal
      refine mj_T.call rfl rfl (Nat.le_of_ble_eq_true rfl) (Nat.le_of_ble_eq_true rfl) (s.rv (by decide) rfl _) rfl (ih f p h rs Y t hu.t hp hfa s) (fun v h4 hq => ?_) (fun i h4 hq => by obtain ⟨_, _, _, _, _, hq, _⟩ := hq; cases hq)
      obtain ⟨v2, c2, h5, Y4, t4, hq, ⟨z, hz, hv⟩, c3, c4⟩ := hq
      subst hv
      cases hq
      refine mj_T.pl (loc' := [some (.ref 455), some (.int (jn (8 - (d : Int)))), some (.ref (467 + (8 - d))), some (.int (jn (i : Int))), some (.int (jn z))]) rfl rfl rfl rfl ?_
      refine mj_T.pl rfl rfl rfl rfl ?_
      obtain ⟨ok, x⟩ := rs
      rcases c4 with ⟨e1, e2, e3, s4, hU⟩ | ⟨e1, e2, s4⟩
      rotate_left
      · have e1 : ok = false := e1
        subst e1
        simp only at hf e2 s4
        cases hf
        refine rm_g s4 rfl rfl ?_
        refine mj_T.pl rfl rfl rfl rfl ?_
        refine mj_T.icmp (a := (x : Int)) (b := -1) rfl ⟨by omega, by omega⟩ ⟨by decide, by decide⟩ (fun c => ?_) (fun _ => ?_)
        · simp only [jc, decide_eq_true_eq] at c
          omega
        · exact mj_T.ret rfl rfl rfl ⟨_, c2, _, _, _, rfl, rfl, c3, Or.inr ⟨rfl, e2, s4⟩⟩
      have e1 : ok = true := e1
      have e2 : c2 = x := e2
      subst e1 e2
      obtain ⟨z', w, hz', hzb, hzF, hUw, hUf⟩ := hU
      cases (show z' = z by
        injection hz' with q
        injection q with q
        exact jn_inj ⟨by omega, by omega⟩ ⟨by omega, by omega⟩ q.symm)
      simp only at hf eVal
      refine rm_g s4 rfl rfl ?_
      refine mj_T.pl rfl rfl rfl rfl ?_
      refine mj_T.icmp (a := -1) (b := -1) rfl ⟨by decide, by decide⟩ ⟨by decide, by decide⟩ (fun _ => ?_) (fun c => absurd c (by decide))
      -- the product so far, times the factor
      have t77 : ∀ (Y6 : Nat → Nat → Int) (t6 : Int) (h6 : mj_H), U0 (zv0 T tm f 0 d p none 1) t t6 (Y6 476) → Y6 (467 + (8 - d)) = Y (467 + (8 - d)) → (∀ c, c ≤ 457 + (8 - d) ∨ (467 ≤ c ∧ c < 467 + (8 - d)) → Y6 c = Y0 c) → rM g n X0 (zkG (8 - d)) Y6 t6 (c2 : Int) (-1) h6 → mj_T (E + 6) mj_m50 77 [some (.ref 455), some (.int (jn (8 - (d : Int)))), some (.ref (467 + (8 - d))), some (.int (jn (i : Int))), some (.int (jn z))] [] h6 (rQm T tm g n X0 (zkF (8 - d)) a0 res rV0 (UP d Y0 t0 (zv0 T tm (f + 1) 1 d p P 1))) := fun Y6 t6 h6 u6 f6 r6 s6 => by
        iterate 2 refine mj_T.pl rfl rfl rfl rfl ?_
        refine rm_g s6 rfl rfl ?_
        iterate 2 refine mj_T.pl rfl rfl rfl rfl ?_
        refine rm_g s6 rfl rfl ?_
        refine mj_T.pl rfl rfl rfl rfl ?_
        refine mj_T.call rfl rfl (Nat.le_of_ble_eq_true rfl) (Nat.le_of_ble_eq_true rfl) (s6.rv19 (by decide) rfl _) rfl (mj_Ok.up (by omega) (rm_11 (D := 0) s6 (show zkG (8 - d) (467 + (8 - d)) from Or.inl (Or.inr ⟨by omega, by omega⟩)) (show zkG (8 - d) 476 from Or.inr rfl))) (fun v h7 hq => ?_) (fun i h7 hq => by obtain ⟨_, ⟨_, _, hq⟩ | ⟨_, _, hq⟩⟩ := hq <;> cases hq)
        obtain ⟨zz, hzz, s7⟩ : ∃ zz : Int, v = some (.int (jn zz)) ∧ ((fit13 (pz_mul (rw13 (Y6 (467 + (8 - d)))) (rw13 (Y6 476))) ∧ zz = 1 ∧ rM g n X0 (zkG (8 - d)) (rwu Y6 (467 + (8 - d)) (pz_mul (rw13 (Y6 (467 + (8 - d)))) (rw13 (Y6 476)))) t6 (c2 : Int) (-1) h7) ∨ (¬ fit13 (pz_mul (rw13 (Y6 (467 + (8 - d)))) (rw13 (Y6 476))) ∧ zz = 0 ∧ rM g n X0 (fun c => c ≠ 467 + (8 - d) ∧ zkG (8 - d) c) Y6 t6 (c2 : Int) (-1) h7)) := by
          obtain ⟨h2, ⟨o, s7, hq⟩ | ⟨o, s7, hq⟩⟩ := hq <;> cases hq
          · exact ⟨1, rfl, Or.inl ⟨o, rfl, s7⟩⟩
          · exact ⟨0, rfl, Or.inr ⟨o, rfl, s7⟩⟩
        subst hzz
        refine mj_T.eq (st2 := [.int (jn zz), .ref 455]) ?_ rfl rfl rfl rfl
        refine mj_T.pl rfl rfl rfl rfl ?_
        refine mj_T.call rfl rfl (Nat.le_of_ble_eq_true rfl) (Nat.le_of_ble_eq_true rfl) (by rcases s7 with ⟨_, _, q⟩ | ⟨_, _, q⟩ <;> exact q.rv (by decide) rfl _) rfl (mj_Ok.up (by omega) (rm_check (D := 0) kr u6.t s7)) (fun v h8 hq => ?_) (fun i h8 hq => by obtain ⟨_, hq, _⟩ := hq; cases hq)
        obtain ⟨_, hq, s8⟩ := hq
        cases hq
        obtain ⟨Y8, t8, s8, u8, f8⟩ : ∃ (Y8 : Nat → Nat → Int) (t8 : Int), rM g n X0 (zkG (8 - d)) Y8 t8 (c2 : Int) (-1) h8 ∧ U0 (zvm P (zv0 T tm f 0 d p none 1)) t0 t8 (Y8 (467 + (8 - d))) ∧ ∀ c, c ≤ 457 + (8 - d) ∨ (467 ≤ c ∧ c < 467 + (8 - d)) → Y8 c = Y0 c := by
          have hu2 : U0 P t0 t (Y6 (467 + (8 - d))) := by rw [f6]; exact hu
          have hm := hu2.mul u6
          have ff : ∀ w : Nat → Int, ∀ c, c ≤ 457 + (8 - d) ∨ (467 ≤ c ∧ c < 467 + (8 - d)) → rwu Y6 (467 + (8 - d)) w c = Y0 c := fun w c hc => by rw [rwu_ne _ _ (by omega), r6 c hc]
          rcases s8 with ⟨o, s8⟩ | ⟨o, s8⟩
          · rcases hm with ⟨A, B, m1, m2, m3, m4, m5⟩ | ⟨m1, m2⟩
            · rw [m4, m5] at o s8
              exact ⟨_, _, s8, ⟨hu.1, Or.inl ⟨pz_mul A B, by rw [m1, m2]; exact zvf_y o, o, m3, fun j _ => by rw [rwu_at]⟩⟩, ff _⟩
            · exact ⟨_, _, s8, ⟨hu.1, Or.inr ⟨m1, m2⟩⟩, ff _⟩
          · refine ⟨_, _, s8, ⟨hu.1, Or.inr ⟨?_, rfl⟩⟩, ff _⟩
            rcases hm with ⟨A, B, m1, m2, m3, m4, m5⟩ | ⟨m1, m2⟩
            · rw [m4, m5] at o
              rw [m1, m2]
              exact zvf_n o
            · exact m1
        iterate 2 refine mj_T.pl rfl rfl rfl rfl ?_
        refine mj_T.call rfl rfl (Nat.le_of_ble_eq_true rfl) (Nat.le_of_ble_eq_true rfl) (s8.rv (by decide) rfl _) rfl (mj_Ok.up (by omega) (rm_takes (D := 0) (c := 42) ⟨by decide, by decide⟩ hB ht hT c3 s8)) (fun v h9 hq => ?_) (fun i h9 hq => by rcases hq with ⟨_, _, _, _, hq⟩ | ⟨_, _, _, hq⟩ <;> cases hq)
        rcases hq with ⟨b9, _, ⟨g1, g2, g3⟩, s9, hq⟩ | ⟨_, g1, s9, hq⟩
        · cases hq
          rw [g1] at hf eVal
          rw [eVal]
          refine mj_T.if0 (a := 1) rfl ⟨by decide, by decide⟩ (fun _ => ?_) (fun hc2 => by simp [jc] at hc2)
          refine mj_T.iinc (a := (i : Int)) rfl rfl ?_
          refine mj_T.eq (loc2 := [some (.ref 455), some (.int (jn (8 - (d : Int)))), some (.ref (467 + (8 - d))), some (.int (jn ((i + 1 : Nat) : Int))), some (.int (jn z))]) ?_ rfl (by rw [show ((i + 1 : Nat) : Int) = (i : Int) + 1 by omega]; rfl) rfl rfl
          refine mj_T.pl rfl rfl rfl rfl ?_
          exact ihf b9 (i + 1) h9 res _ Y8 t8 _ u8 f8 g2 (by omega) (by omega) hf (s9.mono (fun c hc => Or.inl hc))
        · cases hq
          rw [g1] at hf eVal
          cases hf
          have hl9 := rskp_le (T := T) c3
          have hg9 := rskp_ge (T := T) (tm := tm) c2
          refine mj_T.if0 (a := 0) rfl ⟨by decide, by decide⟩ (fun hc2 => by simp [jc] at hc2) (fun _ => ?_)
          exact mj_T.ret rfl rfl rfl ⟨_, rskp T tm c2, h9, Y8, t8, rfl, rfl, hl9, Or.inl ⟨rfl, rfl, by omega, s9.mono (fun c hc => Or.inl hc), by rw [eVal]; exact ⟨u8, f8⟩⟩⟩
      iterate 2 refine mj_T.pl rfl rfl rfl rfl ?_
      refine mj_T.icmp (a := z) (b := -1) rfl ⟨by omega, by omega⟩ ⟨by decide, by decide⟩ (fun c => ?_) (fun c => ?_)
      · simp only [jc, Bool.not_eq_true', Bool.not_eq_false', decide_eq_true_eq, decide_eq_false_iff_not] at c
        refine t77 _ _ _ ?_ (hUf _ (by omega)) (fun x hx => (hUf x (by omega)).trans (hfr x hx)) s4
        rcases hzF with ⟨_, hv⟩ | ⟨hz0, _⟩
        · rw [hv]
          exact hUw
        · omega
      simp only [jc, Bool.not_eq_true', Bool.not_eq_false', decide_eq_true_eq, decide_eq_false_iff_not] at c
      rcases hzF with ⟨hz1, _⟩ | ⟨hz0, hv⟩
      · omega
      obtain ⟨zn, rfl⟩ := Int.eq_ofNat_of_zero_le hz0
      rw [Int.toNat_natCast] at hv
      iterate 2 refine mj_T.pl rfl rfl rfl rfl ?_
      refine rm_g s4 rfl rfl ?_
      refine mj_T.pl rfl rfl rfl rfl ?_
      refine rm_g s4 rfl rfl ?_
      iterate 2 refine mj_T.pl rfl rfl rfl rfl ?_
      refine rm_g s4 rfl rfl ?_
      refine mj_T.call rfl rfl (Nat.le_of_ble_eq_true rfl) (Nat.le_of_ble_eq_true rfl) (s4.rv19 (by decide) rfl _) rfl (mj_Ok.up (by omega) (rm_12 (D := 0) s4 (show zkG (8 - d) 476 from Or.inr rfl) (z := zn) (by omega))) (fun v h7 hq => ?_) (fun i h7 hq => by obtain ⟨_, ⟨_, _, hq⟩ | ⟨_, _, hq⟩⟩ := hq <;> cases hq)
      obtain ⟨zz, hzz, s7⟩ : ∃ zz : Int, v = some (.int (jn zz)) ∧ ((fit13 (pw (rw13 (Y4 476)) zn) ∧ zz = 1 ∧ rM g n X0 (zkG (8 - d)) (rwu Y4 476 (pw (rw13 (Y4 476)) zn)) t4 (c2 : Int) (-1) h7) ∨ (¬ fit13 (pw (rw13 (Y4 476)) zn) ∧ zz = 0 ∧ rM g n X0 (fun c => c ≠ 476 ∧ zkG (8 - d) c) Y4 t4 (c2 : Int) (-1) h7)) := by
        obtain ⟨h2, ⟨o, s7, hq⟩ | ⟨o, s7, hq⟩⟩ := hq <;> cases hq
        · exact ⟨1, rfl, Or.inl ⟨o, rfl, s7⟩⟩
        · exact ⟨0, rfl, Or.inr ⟨o, rfl, s7⟩⟩
      subst hzz
      refine mj_T.eq (st2 := [.int (jn zz), .ref 455]) ?_ rfl rfl rfl rfl
      refine mj_T.pl rfl rfl rfl rfl ?_
      have t455 : h7[455]? = some (.inr (4, RF (c2 : Int) (-1) t4)) := by rcases s7 with ⟨_, _, q⟩ | ⟨_, _, q⟩ <;> exact q.rd
      refine mj_T.gfl rfl t455 rfl ?_
      refine mj_T.call rfl rfl (Nat.le_of_ble_eq_true rfl) (Nat.le_of_ble_eq_true rfl) (by rcases s7 with ⟨_, _, q⟩ | ⟨_, _, q⟩ <;> exact q.rv (by decide) rfl _) rfl (mj_Ok.up (by omega) (rm_check (D := 0) isRw.f hUw.t s7)) (fun v h8 hq => ?_) (fun i h8 hq => by obtain ⟨_, hq, _⟩ := hq; cases hq)
      obtain ⟨_, hq, s8⟩ := hq
      cases hq
      have fr : ∀ w : Nat → Int, ∀ c, c ≤ 457 + (8 - d) ∨ (467 ≤ c ∧ c < 467 + (8 - d)) → rwu Y4 476 w c = Y0 c := fun w x hx => by rw [rwu_ne _ _ (by omega), hUf x (by omega), hfr x hx]
      have fr2 : ∀ w : Nat → Int, rwu Y4 476 w (467 + (8 - d)) = Y (467 + (8 - d)) := fun w => by rw [rwu_ne _ _ (by omega), hUf _ (by omega)]
      obtain ⟨hUt, ⟨A, a1, a2, a3, a4⟩ | ⟨a1, a2⟩⟩ := hUw
      · rw [rw13_fit a2 a4] at s8
        rcases s8 with ⟨o, s8⟩ | ⟨o, s8⟩
        · exact t77 _ _ _ ⟨hUt, Or.inl ⟨_, by rw [hv, a1]; exact zvf_y o, o, a3, fun j _ => by rw [rwu_at]⟩⟩ (fr2 _) (fr _) s8
        · exact t77 _ _ _ ⟨hUt, Or.inr ⟨by rw [hv, a1]; exact zvf_n o, rfl⟩⟩ (fr2 _) (fr _) s8
      · rcases s8 with ⟨o, s8⟩ | ⟨o, s8⟩
        · exact t77 _ _ _ ⟨hUt, Or.inr ⟨by rw [hv, a1]; rfl, a2⟩⟩ (fr2 _) (fr _) s8
        · exact t77 _ _ _ ⟨hUt, Or.inr ⟨by rw [hv, a1]; rfl, rfl⟩⟩ (fr2 _) (fr _) s8
theorem rm_product {d E : Nat} (hB : bX X0 tm T) (ht : tm ≤ 200) (hT : ∀ j : Nat, j < tm → 1 ≤ T j ∧ T j ≤ 255) (hd : d ≤ 8)
    (ih : ∀ (f p : Nat) (h : mj_H) (res : Bool × Nat) (Y : Nat → Nat → Int) (t : Int), (t = 0 ∨ t = 1) → p ≤ tm → rpr0 T tm f 0 d p = some res → rM g n X0 (zkF (8 - d)) Y t (p : Int) (-1) h → mj_Ok (E + 6) 52 [.ref 455, .int (jn (8 - (d : Int)))] h (rQm T tm g n X0 (zkG (8 - d)) p res rV (UF d Y t (zv0 T tm f 0 d p none 1)))) (f p : Nat) (h : mj_H) (res : Bool × Nat) (Y : Nat → Nat → Int) (t : Int) (htt : t = 0 ∨ t = 1) (hp : p ≤ tm) (hf : rpr0 T tm f 1 d p = some res) (s : rM g n X0 (zkP (8 - d)) Y t (p : Int) (-1) h) : mj_Ok (E + 7) 50 [.ref 455, .int (jn (8 - (d : Int)))] h (rQm T tm g n X0 (zkF (8 - d)) p res rV0 (UP d Y t (zv0 T tm f 1 d p (some pz_one) 1))) := by
  refine mj_Ok.of (M := mj_m50) (loc := [some (.ref 455), some (.int (jn (8 - (d : Int)))), none, none, none]) rfl rfl rfl ?_
  refine mj_T.pl rfl rfl rfl rfl ?_
  refine rm_g s rfl rfl ?_
  refine mj_T.pl rfl rfl rfl rfl ?_
  rw [show 8 - (d : Int) = ((8 - d : Nat) : Int) by omega]
  refine mj_T.call rfl rfl (Nat.le_of_ble_eq_true rfl) (Nat.le_of_ble_eq_true rfl) rfl rfl (mj_Ok.up (by omega) (rm_48 (D := 0) (b := 466) (k := 8 - d) s (Or.inr rfl) (by omega))) (fun v h1 hq => ?_) (fun i h1 hq => by cases hq)
  cases hq
  rw [← show 8 - (d : Int) = ((8 - d : Nat) : Int) by omega]
  have kr : isRw (467 + (8 - d)) := isRw.p (by omega)
  refine mj_T.eq (st2 := [.ref (467 + (8 - d))]) ?_ rfl rfl rfl rfl
  refine mj_T.pl (loc' := [some (.ref 455), some (.int (jn (8 - (d : Int)))), some (.ref (467 + (8 - d))), none, none]) rfl rfl rfl rfl ?_
  refine mj_T.pl rfl rfl rfl rfl ?_
  refine mj_T.call rfl rfl (Nat.le_of_ble_eq_true rfl) (Nat.le_of_ble_eq_true rfl) rfl rfl (mj_Ok.up (by omega) (rm_165 (D := 0) (Z' := zkF (8 - d)) s kr (fun c hc => by unfold zkF at hc; unfold zkP; omega))) (fun v h1 hq => ?_) (fun i h1 hq => by obtain ⟨_, _, hq⟩ := hq; cases hq)
  obtain ⟨_, s1, hq⟩ := hq
  cases hq
  iterate 2 refine mj_T.pl rfl rfl rfl rfl ?_
  refine jT.lc 1 rfl rfl ?_
  refine rm_last (i := 0) s1 (show zkF (8 - d) (467 + (8 - d)) from Or.inr ⟨by omega, by omega⟩) rfl ⟨by decide, by decide⟩ (by decide) (fun h2 s2 => ?_)
  iterate 2 refine mj_T.pl rfl rfl rfl rfl ?_
  refine rm_product_loop hB ht hT hd ih Y t f p 0 h2 res _ _ t (some pz_one) ⟨htt, Or.inl ⟨_, rfl, fit_one, rfl, fun j hj => ?_⟩⟩ (fun c hc => ?_) hp (Nat.zero_le _) (Nat.le_refl _) hf s2
  · rw [rwu_at, rwu_at]
    rfl
  · rw [rwu_ne _ _ (by omega), rwu_ne _ _ (by omega)]
end JRF2
/-! The class's reader over the memory: sums, all depths. -/
section JRG2
variable {D tm n : Nat} {T : Nat → Int} {g h h' : mj_H} {a e t : Int} {X0 Y : Nat → Nat → Int}
/-- a sum: and blanks are passed behind it -/
def rQ2m (T : Nat → Int) (tm : Nat) (g : mj_H) (n : Nat) (X0 : Nat → Nat → Int) (Z : Nat → Prop) (a : Nat) (res : Bool × Nat) (U : (Nat → Nat → Int) → Int → Option Value → Prop) (r : mj_R) : Prop := rQm T tm g n X0 Z a res rV0 U r ∧ (res.1 = true → rskp T tm res.2 = res.2)
theorem fit_sum {A B : pz_P} {s : Int} (hA : fit13 A) (hB : fit13 B) : fit13 (fun j => A j + s * B j) ↔ sml (fun j => A j + s * B j) := ⟨fun h => h.1, fun h => ⟨h, fun i hi => by
  show A i + s * B i = 0
  rw [hA.2 i hi, hB.2 i hi, Int.mul_zero]
  rfl⟩⟩
theorem rm_sum_loop {d E a0 : Nat} (hB : bX X0 tm T) (ht : tm ≤ 200) (hT : ∀ j : Nat, j < tm → 1 ≤ T j ∧ T j ≤ 255) (hd : d ≤ 8)
    (ih : ∀ (f p : Nat) (h : mj_H) (res : Bool × Nat) (Y : Nat → Nat → Int) (t : Int), (t = 0 ∨ t = 1) → p ≤ tm → rpr0 T tm f 1 d p = some res → rM g n X0 (zkP (8 - d)) Y t (p : Int) (-1) h → mj_Ok (E + 7) 50 [.ref 455, .int (jn (8 - (d : Int)))] h (rQm T tm g n X0 (zkF (8 - d)) p res rV0 (UP d Y t (zv0 T tm f 1 d p (some pz_one) 1)))) (Y0 : Nat → Nat → Int) (t0 : Int) : ∀ (f p i : Nat) (z : Int) (h : mj_H) (res : Bool × Nat) (l5 : Option Value) (Y : Nat → Nat → Int) (t : Int) (P : Option pz_P), U0 P t0 t (Y (457 + (8 - d))) → (∀ c, c < 457 + (8 - d) ∨ (467 ≤ c ∧ c < 467 + (8 - d)) → Y c = Y0 c) → p ≤ tm → i ≤ p → a0 ≤ p → (z = 1 ∨ z = -1) → rpr0 T tm f 2 d p = some res → rM g n X0 (zkP (8 - d)) Y t (p : Int) (-1) h → mj_T (E + 7) mj_m49 31 [some (.ref 455), some (.int (jn (8 - (d : Int)))), some (.ref (457 + (8 - d))), some (.int (jn z)), some (.int (jn (i : Int))), l5] [] h (rQ2m T tm g n X0 (zkP (8 - d)) a0 res (US d Y0 t0 (zv0 T tm f 2 d p P z))) := by
  intro f
  induction f with
  | zero => intro p i z h res l5 Y t P _ _ _ _ _ _ hf; cases hf
  | succ f ihf =>
    intro p i z h res l5 Y t P hu hfr hp hi ha hz hf s
    have b := s.jBuf hB
    have kr : isRw (457 + (8 - d)) := isRw.s (by omega)
    have eVal : zv0 T tm (f + 1) 2 d p P z = match rpr0 T tm f 1 d p with | some (true, c) => (match rtk T tm 43 c with | some e => zv0 T tm f 2 d e (zva P z (zv0 T tm f 1 d p (some pz_one) 1)) 1 | none => match rtk T tm 45 (rskp T tm c) with | some e => zv0 T tm f 2 d e (zva P z (zv0 T tm f 1 d p (some pz_one) 1)) (-1) | none => zva P z (zv0 T tm f 1 d p (some pz_one) 1)) | _ => none := rfl
    unfold rpr0 at hf
    iterate 2 refine mj_T.pl rfl rfl rfl rfl ?_
    refine rm_g s rfl rfl ?_
    refine mj_T.gfl rfl b.1 rfl ?_
    refine mj_T.icmp (a := (i : Int)) (b := (tm : Int)) rfl ⟨by omega, by omega⟩ ⟨by omega, by omega⟩ (fun c => ?_) (fun _ => ?_)
    · have c := of_decide_eq_true c
      omega
    iterate 2 refine mj_T.pl rfl rfl rfl rfl ?_
    cases hfa : rpr0 T tm f 1 d p with
    | none => rw [hfa] at hf; cases hf
    | some rs =>
      rw [hfa] at hf eVal
      refine mj_T.call rfl rfl (Nat.le_of_ble_eq_true rfl) (Nat.le_of_ble_eq_true rfl) (s.rv (by decide) rfl _) rfl (ih f p h rs Y t hu.t hp hfa s) (fun v h4 hq => ?_) (fun i h4 hq => by obtain ⟨_, _, _, _, _, hq, _⟩ := hq; cases hq)
      obtain ⟨v2, c2, h5, Y4, t4, hq, hv, c3, c4⟩ := hq
      cases hv
      cases hq
      refine mj_T.pl rfl rfl rfl rfl ?_
      obtain ⟨ok, x⟩ := rs
      rcases c4 with ⟨e1, e2, e3, s4, hUw, hUf⟩ | ⟨e1, e2, s4⟩
      rotate_left
      · have e1 : ok = false := e1
        subst e1
        simp only at hf e2 s4
        cases hf
        refine rm_g s4 rfl rfl ?_
        refine mj_T.pl rfl rfl rfl rfl ?_
        refine mj_T.icmp (a := (x : Int)) (b := -1) rfl ⟨by omega, by omega⟩ ⟨by decide, by decide⟩ (fun c => ?_) (fun _ => ?_)
        · simp only [jc, decide_eq_true_eq] at c
          omega
        · exact mj_T.ret rfl rfl rfl ⟨⟨_, c2, _, _, _, rfl, rfl, c3, Or.inr ⟨rfl, e2, s4⟩⟩, fun q => by cases q⟩
      have e1 : ok = true := e1
      have e2 : c2 = x := e2
      subst e1 e2
      simp only at hf eVal
      refine rm_g s4 rfl rfl ?_
      refine mj_T.pl rfl rfl rfl rfl ?_
      refine mj_T.icmp (a := -1) (b := -1) rfl ⟨by decide, by decide⟩ ⟨by decide, by decide⟩ (fun _ => ?_) (fun c => absurd c (by decide))
      iterate 3 refine mj_T.pl rfl rfl rfl rfl ?_
      refine rm_g s4 rfl rfl ?_
      refine mj_T.pl rfl rfl rfl rfl ?_
      have e8 : (8 - (d : Int)) = ((8 - d : Nat) : Int) := by omega
      refine mj_T.call rfl rfl (Nat.le_of_ble_eq_true rfl) (Nat.le_of_ble_eq_true rfl) rfl rfl (by rw [e8]; exact mj_Ok.up (by omega) (rm_48 (D := 0) (b := 466) (k := 8 - d) s4 (Or.inr rfl) (by omega))) (fun v h6 hq => ?_) (fun i h6 hq => by cases hq)
      cases hq
      have k2 : isRw (467 + (8 - d)) := isRw.p (by omega)
      refine mj_T.eq (st2 := [.ref (467 + (8 - d)), .ref (457 + (8 - d)), .ref 455]) ?_ rfl rfl rfl rfl
      iterate 2 refine mj_T.pl rfl rfl rfl rfl ?_
      refine mj_T.call rfl rfl (Nat.le_of_ble_eq_true rfl) (Nat.le_of_ble_eq_true rfl) rfl rfl (mj_Ok.up (by omega) (rm_167 (D := 0) s4 (show zkF (8 - d) (457 + (8 - d)) from Or.inl ⟨by omega, by omega⟩) (show zkF (8 - d) (467 + (8 - d)) from Or.inr ⟨by omega, by omega⟩) hz)) (fun v h6 hq => ?_) (fun i h6 hq => by obtain ⟨_, ⟨_, _, hq⟩ | ⟨_, _, hq⟩⟩ := hq <;> cases hq)
      obtain ⟨zz, hzz, s6⟩ : ∃ zz : Int, v = some (.int (jn zz)) ∧ ((sml (fun j => Y4 (457 + (8 - d)) j + z * Y4 (467 + (8 - d)) j) ∧ zz = 1 ∧ rM g n X0 (zkF (8 - d)) (rwu Y4 (457 + (8 - d)) (fun j => Y4 (457 + (8 - d)) j + z * Y4 (467 + (8 - d)) j)) t4 (c2 : Int) (-1) h6) ∨ (¬ sml (fun j => Y4 (457 + (8 - d)) j + z * Y4 (467 + (8 - d)) j) ∧ zz = 0 ∧ rM g n X0 (fun c => c ≠ 457 + (8 - d) ∧ zkF (8 - d) c) Y4 t4 (c2 : Int) (-1) h6)) := by
        obtain ⟨h2, ⟨o, s7, hq⟩ | ⟨o, s7, hq⟩⟩ := hq <;> cases hq
        · exact ⟨1, rfl, Or.inl ⟨o, rfl, s7⟩⟩
        · exact ⟨0, rfl, Or.inr ⟨o, rfl, s7⟩⟩
      subst hzz
      refine mj_T.eq (st2 := [.int (jn zz), .ref 455]) ?_ rfl rfl rfl rfl
      refine mj_T.pl rfl rfl rfl rfl ?_
      refine mj_T.call rfl rfl (Nat.le_of_ble_eq_true rfl) (Nat.le_of_ble_eq_true rfl) (by rcases s6 with ⟨_, _, q⟩ | ⟨_, _, q⟩ <;> exact q.rv (by decide) rfl _) rfl (mj_Ok.up (by omega) (rm_check (D := 0) kr hUw.t s6)) (fun v h8 hq => ?_) (fun i h8 hq => by obtain ⟨_, hq, _⟩ := hq; cases hq)
      obtain ⟨_, hq, s8⟩ := hq
      cases hq
      have sFP : ∀ (Y9 : Nat → Nat → Int) (t9 : Int), rM g n X0 (zkF (8 - d)) Y9 t9 (c2 : Int) (-1) h8 → rM g n X0 (zkP (8 - d)) Y9 t9 (c2 : Int) (-1) h8 := fun Y9 t9 q => q.mono (fun c hc => by unfold zkP at hc; unfold zkF; omega)
      obtain ⟨Y8, t8, s8, u8, f8⟩ : ∃ (Y8 : Nat → Nat → Int) (t8 : Int), rM g n X0 (zkP (8 - d)) Y8 t8 (c2 : Int) (-1) h8 ∧ U0 (zva P z (zv0 T tm f 1 d p (some pz_one) 1)) t0 t8 (Y8 (457 + (8 - d))) ∧ ∀ c, c < 457 + (8 - d) ∨ (467 ≤ c ∧ c < 467 + (8 - d)) → Y8 c = Y0 c := by
        have e57 : Y4 (457 + (8 - d)) = Y (457 + (8 - d)) := hUf _ (by omega)
        have ff : ∀ w : Nat → Int, ∀ c, c < 457 + (8 - d) ∨ (467 ≤ c ∧ c < 467 + (8 - d)) → rwu Y4 (457 + (8 - d)) w c = Y0 c := fun w c hc => by rw [rwu_ne _ _ (by omega), hUf c (by omega), hfr c hc]
        obtain ⟨hut, ⟨A, a1, a2, a3, a4⟩ | ⟨a1, a2⟩⟩ := hu
        · obtain ⟨_, ⟨B, b1, b2, b3, b4⟩ | ⟨b1, b2⟩⟩ := hUw
          · have ee : ∀ j, j < 13 → Y4 (457 + (8 - d)) j + z * Y4 (467 + (8 - d)) j = A j + z * B j := fun j hj => by rw [e57, a4 j hj, b4 j hj]
            rcases s8 with ⟨o, s8⟩ | ⟨o, s8⟩
            · have o2 := (fit_sum (s := z) a2 b2).mpr (sml_cg ee o)
              exact ⟨_, _, sFP _ _ s8, ⟨hut, Or.inl ⟨_, by rw [a1, b1]; exact zvf_y o2, o2, b3.trans a3, fun j hj => by rw [rwu_at]; exact ee j hj⟩⟩, ff _⟩
            · have o2 : ¬ fit13 (fun j => A j + z * B j) := fun q => o (sml_cg (fun j hj => (ee j hj).symm) q.1)
              exact ⟨_, _, sFP _ _ s8, ⟨hut, Or.inr ⟨by rw [a1, b1]; exact zvf_n o2, rfl⟩⟩, ff _⟩
          · rcases s8 with ⟨o, s8⟩ | ⟨o, s8⟩
            · exact ⟨_, _, sFP _ _ s8, ⟨hut, Or.inr ⟨by rw [a1, b1]; rfl, b2⟩⟩, ff _⟩
            · exact ⟨_, _, sFP _ _ s8, ⟨hut, Or.inr ⟨by rw [a1, b1]; rfl, rfl⟩⟩, ff _⟩
        · have n1 : zva P z (zv0 T tm f 1 d p (some pz_one) 1) = none := by rw [a1]; rfl
          have t41 : t4 = 1 := by
            obtain ⟨_, ⟨B, b1, b2, b3, b4⟩ | ⟨b1, b2⟩⟩ := hUw
            · exact b3.trans a2
            · exact b2
          rcases s8 with ⟨o, s8⟩ | ⟨o, s8⟩
          · exact ⟨_, _, sFP _ _ s8, ⟨hut, Or.inr ⟨n1, t41⟩⟩, ff _⟩
          · exact ⟨_, _, sFP _ _ s8, ⟨hut, Or.inr ⟨n1, rfl⟩⟩, ff _⟩
      have hl9 := rskp_le (T := T) c3
      have hg9 := rskp_ge (T := T) (tm := tm) c2
      -- the next product, with its sign
      have t99 : ∀ (y : Int) (b9 : Nat) (h9 : mj_H), (y = 0 ∨ y = 1) → b9 ≤ tm → i + 1 ≤ b9 → a0 ≤ b9 → rpr0 T tm f 2 d b9 = some res → zv0 T tm (f + 1) 2 d p P z = zv0 T tm f 2 d b9 (zva P z (zv0 T tm f 1 d p (some pz_one) 1)) (if y = 0 then -1 else 1) → rM g n X0 (zkP (8 - d)) Y8 t8 (b9 : Int) (-1) h9 → mj_T (E + 7) mj_m49 99 [some (.ref 455), some (.int (jn (8 - (d : Int)))), some (.ref (457 + (8 - d))), some (.int (jn z)), some (.int (jn (i : Int))), some (.int (jn y))] [] h9 (rQ2m T tm g n X0 (zkP (8 - d)) a0 res (US d Y0 t0 (zv0 T tm (f + 1) 2 d p P z))) := fun y b9 h9 hy g2 g3 g4 hf9 ev9 s9 => by
        have t109 : ∀ z2 : Int, (z2 = 1 ∨ z2 = -1) → z2 = (if y = 0 then -1 else 1) → mj_T (E + 7) mj_m49 109 [some (.ref 455), some (.int (jn (8 - (d : Int)))), some (.ref (457 + (8 - d))), some (.int (jn z)), some (.int (jn (i : Int))), some (.int (jn y))] [.int (jn z2)] h9 (rQ2m T tm g n X0 (zkP (8 - d)) a0 res (US d Y0 t0 (zv0 T tm (f + 1) 2 d p P z))) := fun z2 hz2 hzy => by
          refine mj_T.pl (loc' := [some (.ref 455), some (.int (jn (8 - (d : Int)))), some (.ref (457 + (8 - d))), some (.int (jn z2)), some (.int (jn (i : Int))), some (.int (jn y))]) rfl rfl rfl rfl ?_
          refine mj_T.iinc (a := (i : Int)) rfl rfl ?_
          refine mj_T.eq (loc2 := [some (.ref 455), some (.int (jn (8 - (d : Int)))), some (.ref (457 + (8 - d))), some (.int (jn z2)), some (.int (jn ((i + 1 : Nat) : Int))), some (.int (jn y))]) ?_ rfl (by rw [show ((i + 1 : Nat) : Int) = (i : Int) + 1 by omega]; rfl) rfl rfl
          refine mj_T.pl rfl rfl rfl rfl ?_
          rw [ev9, ← hzy]
          exact ihf b9 (i + 1) z2 h9 res _ Y8 t8 _ u8 f8 g2 g3 g4 hz2 hf9 s9
        refine mj_T.pl rfl rfl rfl rfl ?_
        refine mj_T.if0 (a := y) rfl ⟨by omega, by omega⟩ (fun c => ?_) (fun c => ?_)
        · refine mj_T.pl rfl rfl rfl rfl ?_
          simp only [jc, Bool.not_eq_true', Bool.not_eq_false', decide_eq_true_eq, decide_eq_false_iff_not] at c
          exact t109 (-1) (Or.inr rfl) (if_pos c).symm
        · iterate 2 refine mj_T.pl rfl rfl rfl rfl ?_
          simp only [jc, Bool.not_eq_true', Bool.not_eq_false', decide_eq_true_eq, decide_eq_false_iff_not] at c
          exact t109 1 (Or.inl rfl) (if_neg c).symm
      iterate 2 refine mj_T.pl rfl rfl rfl rfl ?_
      refine mj_T.call rfl rfl (Nat.le_of_ble_eq_true rfl) (Nat.le_of_ble_eq_true rfl) (s8.rv (by decide) rfl _) rfl (mj_Ok.up (by omega) (rm_takes (D := 0) (c := 43) ⟨by decide, by decide⟩ hB ht hT c3 s8)) (fun v h9 hq => ?_) (fun i h9 hq => by rcases hq with ⟨_, _, _, _, hq⟩ | ⟨_, _, _, hq⟩ <;> cases hq)
      rcases hq with ⟨b9, _, ⟨g1, g2, g3⟩, s9, hq⟩ | ⟨_, g1, s9, hq⟩
      · cases hq
        rw [g1] at hf eVal
        refine mj_T.pl (loc' := [some (.ref 455), some (.int (jn (8 - (d : Int)))), some (.ref (457 + (8 - d))), some (.int (jn z)), some (.int (jn (i : Int))), some (.int (jn 1))]) rfl rfl rfl rfl ?_
        refine mj_T.pl rfl rfl rfl rfl ?_
        refine mj_T.if0 (a := 1) rfl ⟨by decide, by decide⟩ (fun _ => ?_) (fun hc2 => by simp [jc] at hc2)
        exact t99 1 b9 h9 (Or.inr rfl) g2 (by omega) (by omega) hf eVal s9
      · cases hq
        rw [g1] at hf eVal
        simp only at hf eVal
        refine mj_T.pl (loc' := [some (.ref 455), some (.int (jn (8 - (d : Int)))), some (.ref (457 + (8 - d))), some (.int (jn z)), some (.int (jn (i : Int))), some (.int (jn 0))]) rfl rfl rfl rfl ?_
        refine mj_T.pl rfl rfl rfl rfl ?_
        refine mj_T.if0 (a := 0) rfl ⟨by decide, by decide⟩ (fun hc2 => by simp [jc] at hc2) (fun _ => ?_)
        iterate 2 refine mj_T.pl rfl rfl rfl rfl ?_
        refine mj_T.call rfl rfl (Nat.le_of_ble_eq_true rfl) (Nat.le_of_ble_eq_true rfl) (s9.rv (by decide) rfl _) rfl (mj_Ok.up (by omega) (rm_takes (D := 0) (c := 45) ⟨by decide, by decide⟩ hB ht hT hl9 s9)) (fun v h10 hq => ?_) (fun i h10 hq => by rcases hq with ⟨_, _, _, _, hq⟩ | ⟨_, _, _, hq⟩ <;> cases hq)
        rcases hq with ⟨b9, _, ⟨g1, g2, g3⟩, s10, hq⟩ | ⟨_, g1, s10, hq⟩
        · cases hq
          rw [g1] at hf eVal
          refine mj_T.if0 (a := 1) rfl ⟨by decide, by decide⟩ (fun _ => ?_) (fun hc2 => by simp [jc] at hc2)
          exact t99 0 b9 h10 (Or.inl rfl) g2 (by omega) (by omega) hf eVal s10
        · cases hq
          rw [g1] at hf eVal
          cases hf
          rw [rskp_idem c3] at s10
          refine mj_T.if0 (a := 0) rfl ⟨by decide, by decide⟩ (fun hc2 => by simp [jc] at hc2) (fun _ => ?_)
          exact mj_T.ret rfl rfl rfl ⟨⟨_, rskp T tm c2, h10, Y8, t8, rfl, rfl, hl9, Or.inl ⟨rfl, rfl, by omega, s10, by rw [eVal]; exact ⟨u8, f8⟩⟩⟩, fun _ => rskp_idem c3⟩
theorem rm_sum {d E : Nat} (hB : bX X0 tm T) (ht : tm ≤ 200) (hT : ∀ j : Nat, j < tm → 1 ≤ T j ∧ T j ≤ 255) (hd : d ≤ 8)
    (ih : ∀ (f p : Nat) (h : mj_H) (res : Bool × Nat) (Y : Nat → Nat → Int) (t : Int), (t = 0 ∨ t = 1) → p ≤ tm → rpr0 T tm f 1 d p = some res → rM g n X0 (zkP (8 - d)) Y t (p : Int) (-1) h → mj_Ok (E + 7) 50 [.ref 455, .int (jn (8 - (d : Int)))] h (rQm T tm g n X0 (zkF (8 - d)) p res rV0 (UP d Y t (zv0 T tm f 1 d p (some pz_one) 1)))) (f p : Nat) (h : mj_H) (res : Bool × Nat) (Y : Nat → Nat → Int) (t : Int) (htt : t = 0 ∨ t = 1) (hp : p ≤ tm) (hf : rpr0 T tm f 3 d p = some res) (s : rM g n X0 (zkS (8 - d)) Y t (p : Int) (-1) h) : mj_Ok (E + 8) 49 [.ref 455, .int (jn (8 - (d : Int)))] h (rQ2m T tm g n X0 (zkP (8 - d)) p res (US d Y t (zv0 T tm f 3 d p none 1))) := by
  obtain ⟨f, rfl⟩ : ∃ f0, f = f0 + 1 := by
    cases f with
    | zero => cases hf
    | succ f0 => exact ⟨f0, rfl⟩
  have eVal : zv0 T tm (f + 1) 3 d p none 1 = match rtk T tm 45 p with | some e => zv0 T tm f 2 d e (some pz_0) (-1) | none => zv0 T tm f 2 d (rskp T tm p) (some pz_0) 1 := rfl
  have kr : isRw (457 + (8 - d)) := isRw.s (by omega)
  have e8 : (8 - (d : Int)) = ((8 - d : Nat) : Int) := by omega
  unfold rpr0 at hf
  refine mj_Ok.of (M := mj_m49) (loc := [some (.ref 455), some (.int (jn (8 - (d : Int)))), none, none, none, none]) rfl rfl rfl ?_
  refine mj_T.pl rfl rfl rfl rfl ?_
  refine rm_g s rfl rfl ?_
  refine mj_T.pl rfl rfl rfl rfl ?_
  refine mj_T.call rfl rfl (Nat.le_of_ble_eq_true rfl) (Nat.le_of_ble_eq_true rfl) rfl rfl (by rw [e8]; exact mj_Ok.up (by omega) (rm_48 (D := 0) (b := 456) (k := 8 - d) s (Or.inl rfl) (by omega))) (fun v h1 hq => ?_) (fun i h1 hq => by cases hq)
  cases hq
  refine mj_T.eq (st2 := [.ref (457 + (8 - d))]) ?_ rfl rfl rfl rfl
  refine mj_T.pl (loc' := [some (.ref 455), some (.int (jn (8 - (d : Int)))), some (.ref (457 + (8 - d))), none, none, none]) rfl rfl rfl rfl ?_
  refine mj_T.pl rfl rfl rfl rfl ?_
  refine mj_T.call rfl rfl (Nat.le_of_ble_eq_true rfl) (Nat.le_of_ble_eq_true rfl) rfl rfl (mj_Ok.up (by omega) (rm_165 (D := 0) (Z' := zkP (8 - d)) s kr (fun c hc => by unfold zkP at hc; unfold zkS; omega))) (fun v h1 hq => ?_) (fun i h1 hq => by obtain ⟨_, _, hq⟩ := hq; cases hq)
  obtain ⟨_, s1, hq⟩ := hq
  cases hq
  iterate 2 refine mj_T.pl rfl rfl rfl rfl ?_
  refine mj_T.call rfl rfl (Nat.le_of_ble_eq_true rfl) (Nat.le_of_ble_eq_true rfl) (s1.rv (by decide) rfl _) rfl (mj_Ok.up (by omega) (rm_takes (D := 0) (c := 45) ⟨by decide, by decide⟩ hB ht hT hp s1)) (fun v h2 hq => ?_) (fun i h2 hq => by rcases hq with ⟨_, _, _, _, hq⟩ | ⟨_, _, _, hq⟩ <;> cases hq)
  have t27 : ∀ (z : Int) (b : Nat) (h2 : mj_H), (z = 1 ∨ z = -1) → b ≤ tm → p ≤ b → rpr0 T tm f 2 d b = some res → zv0 T tm (f + 1) 3 d p none 1 = zv0 T tm f 2 d b (some pz_0) z → rM g n X0 (zkP (8 - d)) (rwu Y (457 + (8 - d)) (fun _ => 0)) t (b : Int) (-1) h2 → mj_T (E + 7) mj_m49 27 [some (.ref 455), some (.int (jn (8 - (d : Int)))), some (.ref (457 + (8 - d))), none, none, none] [.int (jn z)] h2 (rQ2m T tm g n X0 (zkP (8 - d)) p res (US d Y t (zv0 T tm (f + 1) 3 d p none 1))) := fun z b h2 hz hb hpb hf2 ev s2 => by
    refine mj_T.pl (loc' := [some (.ref 455), some (.int (jn (8 - (d : Int)))), some (.ref (457 + (8 - d))), some (.int (jn z)), none, none]) rfl rfl rfl rfl ?_
    iterate 2 refine mj_T.pl rfl rfl rfl rfl ?_
    rw [ev]
    exact rm_sum_loop hB ht hT hd ih Y t f b 0 z h2 res none _ t (some pz_0) ⟨htt, Or.inl ⟨_, rfl, fit_0, rfl, fun j hj => by rw [rwu_at]; rfl⟩⟩ (fun c hc => rwu_ne _ _ (by omega)) hb (Nat.zero_le _) hpb hz hf2 s2
  have hg := rskp_ge (T := T) (tm := tm) p
  have hl := rskp_le (T := T) hp
  rcases hq with ⟨b, _, ⟨b1, b2, b3⟩, s2, hq⟩ | ⟨_, b1, s2, hq⟩
  · cases hq
    rw [b1] at hf eVal
    refine mj_T.if0 (a := 1) rfl ⟨by decide, by decide⟩ (fun hc2 => by simp [jc] at hc2) (fun _ => ?_)
    iterate 2 refine mj_T.pl rfl rfl rfl rfl ?_
    exact t27 (-1) b h2 (Or.inr rfl) b2 (by omega) hf eVal s2
  · cases hq
    rw [b1] at hf eVal
    refine mj_T.if0 (a := 0) rfl ⟨by decide, by decide⟩ (fun _ => ?_) (fun hc2 => by simp [jc] at hc2)
    refine mj_T.pl rfl rfl rfl rfl ?_
    exact t27 1 _ h2 (Or.inl rfl) hl hg hf eVal s2
theorem rm_all (hB : bX X0 tm T) (ht : tm ≤ 200) (hT : ∀ j : Nat, j < tm → 1 ≤ T j ∧ T j ≤ 255) : ∀ d, d ≤ 8 → ∀ (f p : Nat) (h : mj_H) (res : Bool × Nat) (Y : Nat → Nat → Int) (t : Int), (t = 0 ∨ t = 1) → p ≤ tm → rpr0 T tm f 3 d p = some res → rM g n X0 (zkS (8 - d)) Y t (p : Int) (-1) h → mj_Ok (3 * d + 8) 49 [.ref 455, .int (jn (8 - (d : Int)))] h (rQ2m T tm g n X0 (zkP (8 - d)) p res (US d Y t (zv0 T tm f 3 d p none 1))) := by
  intro d
  induction d with
  | zero =>
    intro _ f p h res Y t htt hp hf s
    refine rm_sum (E := 0) hB ht hT (by decide) (fun f p h res Y t htt hp hf s => ?_) f p h res Y t htt hp hf s
    exact rm_product (E := 0) hB ht hT (by decide) (fun f p h res Y t htt hp hf s => rm_factor (E := 5) hB ht hT (by decide) (Nat.le_refl 5) htt (fun d' e => by omega) hp hf s) f p h res Y t htt hp hf s
  | succ d ihd =>
    intro hd f p h res Y t htt hp hf s
    have e : 3 * (d + 1) + 8 = (3 * d + 3) + 8 := by omega
    rw [e]
    refine rm_sum (E := 3 * d + 3) hB ht hT hd (fun f p h res Y t htt hp hf s => ?_) f p h res Y t htt hp hf s
    refine rm_product (E := 3 * d + 3) hB ht hT hd (fun f p h res Y t htt hp hf s => ?_) f p h res Y t htt hp hf s
    exact rm_factor (E := 3 * d + 8) hB ht hT hd (by omega) htt (fun d' e f p h res Y t htt hp hf s => by
      have e2 : d = d' := by omega
      subst e2
      exact (ihd (by omega) f p h res Y t htt hp hf s).to (fun r q => q.1)) hp hf s
end JRG2
/-! The class, exactly: a whole text is read. -/
/-- what the text says -/
noncomputable def rdV (T : Nat → Int) (tm : Nat) : Option pz_P := zv0 T tm (rdF tm) 3 8 0 none 1
theorem CR.of {X X1 : Nat → Nat → Int} {N : Nat → Int} {u : Nat} {H : Nat → Nat → Int} (h2 : X1 1 2 = X 1 2) (h3 : X1 1 3 = X 1 3) (h : ∀ c, (2 ≤ c ∧ c < 12) ∨ 483 ≤ c ∨ c = 15 ∨ c = 17 → X1 c = X c) (c : CR X N u H) : CR X1 N u H := by
  obtain ⟨e, he, q3, q2, b, bh, tl⟩ := c
  exact ⟨e, he, h3.trans q3, h2.trans q2, b.cg (fun c c1 c2 => h c (by omega)), fun k hk => (bh k hk).cg (fun c c1 c2 => h c (by omega)), tl.to (fun c hc => h c (by omega))⟩
/-- the reader begins -/
def rX1 (X : Nat → Nat → Int) (tm : Nat) : Nat → Nat → Int := fun a j => if a = 455 then (if j = 1 then 13 else if j = 2 then 0 else if j = 3 then -1 else if j = 4 then 0 else X 455 j) else if a = 13 then (if j = 1 then (tm : Int) else X 13 j) else X a j
theorem rX1_o (X : Nat → Nat → Int) (tm : Nat) {a : Nat} (h1 : a ≠ 455) (h2 : a ≠ 13) : rX1 X tm a = X a := funext fun j => by
  unfold rX1
  rw [if_neg h1, if_neg h2]
section RMA
variable {D tm n : Nat} {T : Nat → Int} {g h h' : mj_H} {X Y : Nat → Nat → Int} {V : Nat → Int}
theorem rM_start (m : jM g n V X h) (b0 : by0 V) (d : DG X) (hB : jBuf tm T h) : rM g n (rX1 X tm) (fun _ => False) Y 0 0 (-1) (h.set 455 (.inr (4, RF 0 (-1) 0))) ∧ bX (rX1 X tm) tm T := by
  have hl := (List.getElem?_eq_some_iff.mp (m.O 14 cq_d455 (by decide))).1
  have e13 : rX1 X tm 13 1 = (tm : Int) := rfl
  have hm : jM g n V (rX1 X tm) (h.set 455 (.inr (4, RF 0 (-1) 0))) := by
    refine m.up (fun x => x = 455 ∨ x = 13) (by rw [List.length_set]) (fun x hx => ?_) (fun p hp => List.getElem?_set_ne (fun e => hp (Or.inl e.symm))) (fun _ _ => rfl) (fun x hx => rX1_o X tm (fun e => hx (Or.inl e)) (fun e => hx (Or.inr e))) (fun x hx => ?_) (fun x hx => ?_)
    · rcases hx with rfl | rfl
      · rw [cq_d455]
        decide
      · rw [cq_d13]
        decide
    · have w := mK_w hx
      constructor
      · intro e
        rcases e with rfl | rfl
        · rw [cq_d455] at hx
          omega
        · rw [cq_d13] at hx
          omega
      · intro e
        rcases e with e | e
        · rw [e, cq_d455] at w
          omega
        · rw [e, cq_d13] at w
          omega
    · rcases hx with rfl | rfl
      · unfold jMk
        rw [cq_d455, if_neg (by decide), if_neg (by decide), if_neg (by decide), if_neg (by decide), if_neg (by decide), if_neg (by decide), if_neg (by decide), List.getElem?_set_self hl]
        rfl
      · unfold jMk
        rw [cq_d13, if_neg (by decide), if_neg (by decide), if_neg (by decide), if_neg (by decide), if_neg (by decide), if_neg (by decide), if_neg (by decide), List.getElem?_set_ne (by decide), hB.1]
        rfl
  refine ⟨⟨V, _, hm, ⟨b0, d.of (fun p kp => rX1_o X tm (fun e => ?_) (fun e => ?_)), sBn.rf _⟩, ⟨rfl, rfl, rfl, rfl⟩, fun c hc => hc.elim⟩, e13, fun j hj => ?_⟩
  · rw [e, cq_d455] at kp
    omega
  · rw [e, cq_d13] at kp
    omega
  · have h1 := m.2.2 14
    rw [cq_456.2.2.2.2.2.2.2.2] at h1
    have h2 : h[14]? = some (.inl (2, cL 14, fun j => .int (jn (X 14 j)))) := h1
    obtain ⟨f, f1, f2⟩ := hB.2
    rw [h2] at f1
    injection f1 with f1
    injection f1 with f1
    have f3 := (Prod.mk.inj (Prod.mk.inj f1).2).2
    rw [← f2 j hj, ← f3]
    rfl
theorem rm_accepts (m : jM g n V X h) (b0 : by0 V) (d : DG X) (hB0 : jBuf tm T h) (ht : tm ≤ 200) (hT : ∀ j : Nat, j < tm → 1 ≤ T j ∧ T j ≤ 255) : mj_Ok 40 46 [.ref 455, .ref 13] h (fun r => ∃ (p : Nat) (h2 : mj_H) (Y2 : Nat → Nat → Int) (t2 : Int) (Z2 : Nat → Prop), jr (rdErr T tm) ∧ rM g n (rX1 X tm) Z2 Y2 t2 (p : Int) (rdErr T tm) h2 ∧ (rdErr T tm = -1 → Z2 457 ∧ U0 (rdV T tm) 0 t2 (Y2 457)) ∧ r = (.inl (some (.int (jn (if rdErr T tm = -1 then 1 else 0)))), h2)) := by
  have hc := m.O 14 cq_d455 (by decide)
  have hl := (List.getElem?_eq_some_iff.mp hc).1
  refine mj_Ok.of (M := mj_m46) (loc := [some (.ref 455), some (.ref 13)]) rfl rfl rfl ?_
  iterate 2 refine mj_T.pl rfl rfl rfl rfl ?_
  refine mj_T.pfl rfl hc (Nat.le_of_ble_eq_true rfl) rfl ?_
  iterate 2 refine mj_T.pl rfl rfl rfl rfl ?_
  refine mj_T.pfl rfl (List.getElem?_set_self hl) (Nat.le_of_ble_eq_true rfl) rfl ?_
  rw [List.set_set]
  iterate 2 refine mj_T.pl rfl rfl rfl rfl ?_
  refine mj_T.pfl rfl (List.getElem?_set_self hl) (Nat.le_of_ble_eq_true rfl) rfl ?_
  rw [List.set_set]
  iterate 2 refine mj_T.pl rfl rfl rfl rfl ?_
  refine mj_T.pfl rfl (List.getElem?_set_self hl) (Nat.le_of_ble_eq_true rfl) rfl ?_
  rw [List.set_set]
  obtain ⟨s1, hB⟩ := rM_start (Y := fun _ _ => 0) m b0 d hB0
  obtain ⟨h1, hh1⟩ : ∃ z, z = h.set 455 (.inr (4, RF 0 (-1) 0)) := ⟨_, rfl⟩
  rw [← hh1] at s1
  refine mj_T.eq (h2 := h1) ?_ rfl rfl rfl (by rw [hh1]; rfl)
  obtain ⟨hre, hrb⟩ := rdR_eq T tm
  obtain ⟨res, hres⟩ : ∃ z, rdR T tm = z := ⟨_, rfl⟩
  rw [hres] at hre hrb
  have t55 : ∀ (x : Int) (p : Nat) (h2 : mj_H) (Y2 : Nat → Nat → Int) (t2 : Int) (Z2 : Nat → Prop), jr x → p ≤ tm → rdErr T tm = x → rM g n (rX1 X tm) Z2 Y2 t2 (p : Int) x h2 → (x = -1 → Z2 457 ∧ U0 (rdV T tm) 0 t2 (Y2 457)) → mj_T 39 mj_m46 55 [some (.ref 455), some (.ref 13)] [] h2 (fun r => ∃ (p : Nat) (h2 : mj_H) (Y2 : Nat → Nat → Int) (t2 : Int) (Z2 : Nat → Prop), jr (rdErr T tm) ∧ rM g n (rX1 X tm) Z2 Y2 t2 (p : Int) (rdErr T tm) h2 ∧ (rdErr T tm = -1 → Z2 457 ∧ U0 (rdV T tm) 0 t2 (Y2 457)) ∧ r = (.inl (some (.int (jn (if rdErr T tm = -1 then 1 else 0)))), h2)) := fun x p h2 Y2 t2 Z2 jx hp ex s2 hu => by
    rw [ex]
    refine mj_T.pl rfl rfl rfl rfl ?_
    refine rm_g s2 rfl rfl ?_
    refine mj_T.pl rfl rfl rfl rfl ?_
    refine mj_T.icmp (a := x) (b := -1) rfl jx ⟨by decide, by decide⟩ (fun c => ?_) (fun c => ?_)
    · simp only [jc, Bool.not_eq_true', decide_eq_false_iff_not] at c
      refine mj_T.pl rfl rfl rfl rfl ?_
      exact mj_T.ret rfl rfl rfl ⟨p, h2, Y2, t2, Z2, jx, s2, hu, by rw [if_neg c]⟩
    · simp only [jc, Bool.not_eq_false', decide_eq_true_eq] at c
      iterate 2 refine mj_T.pl rfl rfl rfl rfl ?_
      exact mj_T.ret rfl rfl rfl ⟨p, h2, Y2, t2, Z2, jx, s2, hu, by rw [if_pos c]⟩
  iterate 2 refine mj_T.pl rfl rfl rfl rfl ?_
  refine mj_T.eq (st2 := [.int (jn (8 - ((8 : Nat) : Int))), .ref 455]) ?_ rfl rfl rfl rfl
  refine mj_T.call rfl rfl (Nat.le_of_ble_eq_true rfl) (Nat.le_of_ble_eq_true rfl) (s1.rv (by decide) rfl _) rfl (mj_Ok.up (by decide) (rm_all hB ht hT 8 (by decide) (rdF tm) 0 h1 res (fun _ _ => 0) 0 (Or.inl rfl) (Nat.zero_le _) hre (s1.mono (fun c hc => by unfold zkS at hc; omega)))) (fun v h4 hq => ?_) (fun i h4 hq => by obtain ⟨⟨_, _, _, _, _, hq, _⟩, _⟩ := hq; cases hq)
  obtain ⟨⟨v2, c2, h5, Y4, t4, hq, hv, c3, c4⟩, hsk⟩ := hq
  cases hv
  cases hq
  refine mj_T.pl rfl rfl rfl rfl ?_
  rcases c4 with ⟨e1, e2, e3, s4, hU⟩ | ⟨e1, e2, s4⟩
  rotate_left
  · refine rm_g s4 rfl rfl ?_
    refine mj_T.pl rfl rfl rfl rfl ?_
    refine mj_T.icmp (a := (res.2 : Int)) (b := -1) rfl ⟨by omega, by omega⟩ ⟨by decide, by decide⟩ (fun _ => ?_) (fun c => ?_)
    · exact t55 _ c2 h4 _ _ _ ⟨by omega, by omega⟩ c3 (by unfold rdErr; rw [hres, e1]; rfl) s4 (fun q => by omega)
    · simp only [jc, Bool.not_eq_false', decide_eq_true_eq] at c
      omega
  have hb := s4.jBuf hB
  have hsk2 := hsk e1
  refine rm_g s4 rfl rfl ?_
  refine mj_T.pl rfl rfl rfl rfl ?_
  refine mj_T.icmp (a := -1) (b := -1) rfl ⟨by decide, by decide⟩ ⟨by decide, by decide⟩ (fun c => absurd c (by decide)) (fun _ => ?_)
  refine mj_T.pl rfl rfl rfl rfl ?_
  refine rm_g s4 rfl rfl ?_
  refine mj_T.pl rfl rfl rfl rfl ?_
  refine rm_g s4 rfl rfl ?_
  refine mj_T.gfl rfl hb.1 rfl ?_
  refine mj_T.icmp (a := (c2 : Int)) (b := (tm : Int)) rfl ⟨by omega, by omega⟩ ⟨by omega, by omega⟩ (fun c => ?_) (fun c => ?_)
  · have c := of_decide_eq_true c
    refine t55 (-1) c2 h4 _ _ _ ⟨by decide, by decide⟩ c3 ?_ s4 (fun _ => ⟨Or.inl ⟨by decide, by decide⟩, hU.1⟩)
    unfold rdErr
    rw [hres, if_pos e1, if_pos (by rw [hsk2]; omega)]
  · have c := of_decide_eq_false c
    iterate 2 refine mj_T.pl rfl rfl rfl rfl ?_
    refine rm_g s4 rfl rfl ?_
    refine rm_p3 s4 rfl (fun h6 s6 => ?_)
    refine t55 (c2 : Int) c2 h6 _ _ _ ⟨by omega, by omega⟩ c3 ?_ s6 (fun q => by omega)
    unfold rdErr
    rw [hres, if_pos e1, if_neg (by rw [hsk2]; omega), hsk2, e2]
end RMA
section RMC
variable {D tm n u : Nat} {T : Nat → Int} {g h : mj_H} {N : Nat → Int} {H : Nat → Nat → Int}
theorem pX_read (hg : g.length ≤ n) (A : AS N u H) (s : cS g n N u H h) (hB0 : jBuf tm T h) (ht : tm ≤ 200) (hT : ∀ j : Nat, j < tm → 1 ≤ T j ∧ T j ≤ 255) {to : Int} (rto : -2147483648 ≤ to ∧ to ≤ 2147483647) : mj_Ok 41 114 [.ref 1, .int (jn to)] h (RO g n N u H (0 ≤ to ∧ to ≤ 5) (fun k => (rdErr T tm ≠ -1 ∧ k = 2) ∨ (rdErr T tm = -1 ∧ rdV T tm = none ∧ k = 1)) (fun w => rdErr T tm = -1 ∧ ∃ P, rdV T tm = some P ∧ isP P w) to) := by
  obtain ⟨V, X, m, b0, d, c⟩ := s
  refine mj_Ok.of (M := mj_m114) (loc := [some (.ref 1), some (.int (jn to)), none]) rfl rfl rfl ?_
  iterate 2 refine mj_T.pl rfl rfl rfl rfl ?_
  refine mj_T.call rfl rfl (Nat.le_of_ble_eq_true rfl) (Nat.le_of_ble_eq_true rfl) (mV_of m 19 cq_d1 (by decide) rfl (by decide) rfl _) rfl (mj_Ok.up (by omega) (mC_rowOf (D := 0) m (i := to) (by omega))) (fun v g1 hq => ?_) (fun i g1 hq => ?_)
  rotate_left
  · rcases hq with ⟨_, hq⟩ | ⟨hn, hq⟩
    · cases hq
    · cases hq
      exact Or.inl ⟨rfl, Or.inr ⟨_, _, Or.inl ⟨by omega, rfl⟩, cS.thr hg m b0 d c, rfl⟩⟩
  rcases hq with ⟨kto, hq⟩ | ⟨_, hq⟩
  rotate_left
  · cases hq
  cases hq
  refine mj_T.eq (pc2 := 5) (st2 := [.ref (4 + to.toNat)]) ?_ rfl rfl rfl rfl
  iterate 2 refine mj_T.pl rfl rfl rfl rfl ?_
  refine mT_get m 19 cq_d1 (by decide) rfl rfl ?_
  refine mj_T.pl rfl rfl rfl rfl ?_
  refine mT_get m 19 cq_d1 (by decide) rfl rfl ?_
  refine mj_T.call rfl rfl (Nat.le_of_ble_eq_true rfl) (Nat.le_of_ble_eq_true rfl) (mV_of m 14 cq_d455 (by decide) rfl (by decide) rfl _) rfl (mj_Ok.up (by omega) (rm_accepts m b0 d hB0 ht hT)) (fun v g2 hq => ?_) (fun i g2 hq => by obtain ⟨_, _, _, _, _, _, _, _, hq⟩ := hq; cases hq)
  obtain ⟨p, _, Y2, t2, Z2, hjE, ⟨V2, X2, m2, ⟨b2, d2, sb⟩, ⟨x1, x2, x3, x4⟩, yr⟩, hU, hq⟩ := hq
  have c1 : CR (rX1 X tm) N u H := CR.of (congrFun (rX1_o X tm (by decide) (by decide)) 2) (congrFun (rX1_o X tm (by decide) (by decide)) 3) (fun a ha => rX1_o X tm (by omega) (by omega)) c
  have c2 := c1.sb sb
  obtain ⟨E, hE⟩ : ∃ E, rdErr T tm = E := ⟨_, rfl⟩
  rw [hE] at hjE hU x3 hq ⊢
  generalize hz : (if E = -1 then (1 : Int) else 0) = z at hq
  have hz01 : (E = -1 ∧ z = 1) ∨ (E ≠ -1 ∧ z = 0) := by
    rw [← hz]
    split
    · rename_i q
      exact Or.inl ⟨q, rfl⟩
    · rename_i q
      exact Or.inr ⟨q, rfl⟩
  cases hq
  refine mj_T.pl (loc' := [some (.ref 1), some (.int (jn to)), some (.int (jn z))]) rfl rfl rfl rfl ?_
  refine mj_T.pl rfl rfl rfl rfl ?_
  refine mT_get m2 19 cq_d1 (by decide) rfl rfl ?_
  refine mj_T.pl rfl rfl rfl rfl ?_
  refine mT_put (v := 0) m2 27 cq_d13 (by decide) rfl (by simp [jMf, xup]) (by simp [jMf]) rfl (fun g3 m3 => ?_)
  iterate 2 refine mj_T.pl rfl rfl rfl rfl ?_
  refine mT_get m3 19 cq_d1 (by decide) rfl rfl ?_
  refine mT_get (v := .int (jn E)) m3 14 cq_d455 (by decide) rfl (by rw [← x3]; rfl) ?_
  refine mT_put (v := E) m3 19 cq_d1 (by decide) rfl (by simp [jMf, xup]) (by simp [jMf]) rfl (fun g4 m4 => ?_)
  have eo : ∀ a, a ≠ 1 → a ≠ 13 → xup (xup X2 13 1 0) 1 15 E a = X2 a := fun a h1 h2 => funext fun j => by
    rw [xup_ne _ _ (Or.inl h1), xup_ne _ _ (Or.inl h2)]
  have c4 : CR (xup (xup X2 13 1 0) 1 15 E) N u H := CR.of (by rw [xup_ne _ _ (Or.inr (by decide)), xup_ne _ _ (Or.inl (by decide))]) (by rw [xup_ne _ _ (Or.inr (by decide)), xup_ne _ _ (Or.inl (by decide))]) (fun a ha => eo a (by omega) (by omega)) c2
  have d4 : DG (xup (xup X2 13 1 0) 1 15 E) := d2.of (fun a ka => eo a (fun q => by rw [q, cq_d1] at ka; omega) (fun q => by rw [q, cq_d13] at ka; omega))
  have y4 : (xup (xup X2 13 1 0) 1 15 E) 455 4 = t2 := by rw [eo 455 (by decide) (by decide), x4]
  have y457 : (xup (xup X2 13 1 0) 1 15 E) 457 = X2 457 := eo 457 (by decide) (by decide)
  generalize (xup (xup X2 13 1 0) 1 15 E) = X4 at m4 c4 d4 y4 y457
  refine mj_T.pl rfl rfl rfl rfl ?_
  rcases hz01 with ⟨hE1, rfl⟩ | ⟨hE1, rfl⟩
  rotate_left
  · refine mj_T.if0 (a := 0) rfl ⟨by decide, by decide⟩ (fun q => by simp [jc] at q) (fun _ => ?_)
    exact mj_T.throws rfl rfl rfl (Nat.le_of_ble_eq_true rfl) (Or.inr ⟨_, _, Or.inr ⟨kto, Or.inl ⟨hE1, rfl⟩⟩, cS.thr hg m4 b2 d4 c4, rfl⟩)
  refine mj_T.if0 (a := 1) rfl ⟨by decide, by decide⟩ (fun _ => ?_) (fun q => by simp [jc] at q)
  obtain ⟨z457, hu⟩ := hU hE1
  have k457 := (yr 457 z457).2
  refine mj_T.pl rfl rfl rfl rfl ?_
  refine mT_get m4 19 cq_d1 (by decide) rfl rfl ?_
  refine mT_get (v := .int (jn t2)) m4 14 cq_d455 (by decide) rfl (by rw [← y4]; rfl) ?_
  have ht2 := hu.t
  refine mj_T.if0 (a := t2) rfl ⟨by omega, by omega⟩ (fun q => ?_) (fun q => ?_)
  rotate_left
  · simp only [jc, Bool.not_eq_true', Bool.not_eq_false', decide_eq_true_eq, decide_eq_false_iff_not] at q
    have hn : rdV T tm = none := by
      rcases hu.2 with ⟨P, p1, p2, p3, p4⟩ | ⟨p1, p2⟩
      · omega
      · exact p1
    exact mj_T.throws rfl rfl rfl (Nat.le_of_ble_eq_true rfl) (Or.inr ⟨_, _, Or.inr ⟨kto, Or.inr ⟨hE1, hn, rfl⟩⟩, cS.thr hg m4 b2 d4 c4, rfl⟩)
  simp only [jc, Bool.not_eq_true', Bool.not_eq_false', decide_eq_true_eq, decide_eq_false_iff_not] at q
  obtain ⟨P, p1, p2, p4⟩ : ∃ P, rdV T tm = some P ∧ fit13 P ∧ ∀ j, j < 13 → Y2 457 j = P j := by
    rcases hu.2 with ⟨P, p1, p2, p3, p4⟩ | ⟨p1, p2⟩
    · exact ⟨P, p1, p2, p4⟩
    · omega
  refine mj_T.pl rfl rfl rfl rfl ?_
  refine mT_get m4 19 cq_d1 (by decide) rfl rfl ?_
  have kans : mj_Ok 1 47 [.ref 455] g4 (fun z => z = (.inl (some (.ref 457)), g4)) := by
    refine mj_Ok.of (M := mj_m47) (loc := [some (.ref 455)]) rfl rfl rfl ?_
    refine mj_T.pl rfl rfl rfl rfl ?_
    refine mT_get m4 14 cq_d455 (by decide) rfl rfl ?_
    refine mj_T.pl rfl rfl rfl rfl ?_
    refine mT_aald (i := 0) m4 6 cq_456.1 (by decide) rfl rfl (by decide) ⟨by decide, by rw [cq_456.2.1]; decide⟩ ?_
    exact mj_T.ret rfl rfl rfl rfl
  refine mj_T.call rfl rfl (Nat.le_of_ble_eq_true rfl) (Nat.le_of_ble_eq_true rfl) (mV_of m4 14 cq_d455 (by decide) rfl (by decide) rfl _) rfl (mj_Ok.up (by omega) kans) (fun v g5 hq => ?_) (fun i g5 hq => by cases hq)
  cases hq
  refine mj_T.eq (pc2 := 74) (st2 := [.ref 457]) ?_ rfl rfl rfl rfl
  refine mj_T.pl rfl rfl rfl rfl ?_
  refine mT_get m4 19 cq_d1 (by decide) rfl rfl ?_
  refine mj_T.call rfl rfl (Nat.le_of_ble_eq_true rfl) (Nat.le_of_ble_eq_true rfl) rfl rfl (mj_Ok.up (by omega) (mS_copy (D := 0) m4 (isRw.k (Or.inl ⟨by decide, by decide⟩)) cq_d481)) (fun v g6 hq => ?_) (fun i g6 hq => by obtain ⟨_, _, hq⟩ := hq; cases hq)
  obtain ⟨_, m6, hq⟩ := hq
  cases hq
  have hrow : ∀ j, j < 13 → xfl X4 481 (X4 457) 13 481 j = P j := fun j hj => by
    rw [xfl_at _ _ _ hj, y457, k457.2 j hj, p4 j hj]
  have sP : sml (xfl X4 481 (X4 457) 13 481) := sml_cg (fun j hj => (hrow j hj).symm) p2.1
  have e481 : ∀ a, a ≠ 481 → xfl X4 481 (X4 457) 13 a = X4 a := fun a ha => xfl_off _ _ _ ha
  iterate 2 refine mj_T.pl rfl rfl rfl rfl ?_
  refine mj_T.call rfl rfl (Nat.le_of_ble_eq_true rfl) (Nat.le_of_ble_eq_true rfl) (mV_of m6 19 cq_d1 (by decide) rfl (by decide) rfl _) rfl (mj_Ok.up (by omega) (mX_keep (D := 0) A m6 b2 (d4.of (fun a ka => e481 a (fun q => by have := cK_13 ka; omega))) (c4.sb (sBn.of e481)) kto sP)) (fun v g7 hq => ?_) (fun i g7 hq => by obtain ⟨_, _, hq⟩ := hq; cases hq)
  obtain ⟨_, cs, hq⟩ := hq
  cases hq
  exact mj_T.ret rfl rfl rfl (Or.inl ⟨kto, _, _, sP, ⟨hE1, P, p1, p2, hrow⟩, cs, rfl⟩)
end RMC
