/-! The reference as a whole: its fields, its rows, and what holds between two calls. -/
def rF (S : Nat → Int) : List Value := [.ref 1, .ref 2, .int (jn (S 2)), .int (jn (S 3)), .ref 3, .ref 4, .ref 5, .int (jn (S 7)), .ref 6, .int (jn (S 9)), .int (jn (S 10)), .int (jn (S 11)), .int (jn (S 12)), .int (jn (S 13)), .ref 7, .int (jn (S 15))]
def rH (S N B T X : Nat → Int) : mj_H := [.inr (10, rF S), .inl (1, 91, fun j => .long (jl (N j))), .inl (1, 728, fun j => .long (jl (B j))), .inl (0, 466830, fun _ => .int (jn 0)), .inl (0, 1404, fun _ => .int (jn 0)), .inl (0, 702, fun _ => .int (jn 0)), .inl (0, 200, fun j => .int (jn (T j))), .inl (0, 600, fun j => .int (jn (X j)))]
def rS (S N B T X V : Nat → Int) (h : mj_H) : Prop := jS (rH S N B T X) 3 4 5 V h
theorem rG (S N B T X : Nat → Int) : jG (rH S N B T X) 0 3 4 5 (rF S) := ⟨⟨⟨rfl, rfl, by decide, by show 3 < 8; decide⟩, rfl, by decide, by decide, by show 4 < 8; decide⟩, rfl, by decide, by decide, by decide, by show 5 < 8; decide⟩
section RS
variable {S N B T X V : Nat → Int} {h : mj_H} {D : Nat}
theorem jS_at {hp : mj_H} {q1 q2 q3 p : Nat} (hs : jS hp q1 q2 q3 V h) (n1 : p ≠ q1) (n2 : p ≠ q2) (n3 : p ≠ q3) : h[p]? = hp[p]? := by
  obtain ⟨bg, ov, db, hV, rfl⟩ := hs
  rw [List.getElem?_set_ne (Ne.symm n1), List.getElem?_set_ne (Ne.symm n2), List.getElem?_set_ne (Ne.symm n3)]
theorem jS_cell {hp : mj_H} {q1 q2 q3 p : Nat} (hs : jS hp q1 q2 q3 V h) (n1 : p ≠ q1) (n2 : p ≠ q2) (n3 : p ≠ q3) (e : mj_E) : jS (hp.set p e) q1 q2 q3 V (h.set p e) := by
  obtain ⟨bg, ov, db, hV, rfl⟩ := hs
  refine ⟨bg, ov, db, hV, ?_⟩
  show ((((hp.set q3 _).set q2 _).set q1 _).set p e) = (((hp.set p e).set q3 _).set q2 _).set q1 _
  rw [List.set_comm _ _ (Ne.symm n1), List.set_comm _ _ (Ne.symm n2), List.set_comm _ _ (Ne.symm n3)]
theorem rS_f (hs : rS S N B T X V h) : h[0]? = some (.inr (10, rF S)) := jS_at hs (by decide) (by decide) (by decide)
theorem rS_N (hs : rS S N B T X V h) : h[1]? = some (.inl (1, 91, fun j => .long (jl (N j)))) := jS_at hs (by decide) (by decide) (by decide)
theorem rS_B (hs : rS S N B T X V h) : h[2]? = some (.inl (1, 728, fun j => .long (jl (B j)))) := jS_at hs (by decide) (by decide) (by decide)
theorem rS_T (hs : rS S N B T X V h) : h[6]? = some (.inl (0, 200, fun j => .int (jn (T j)))) := jS_at hs (by decide) (by decide) (by decide)
theorem rS_X (hs : rS S N B T X V h) : h[7]? = some (.inl (0, 600, fun j => .int (jn (X j)))) := jS_at hs (by decide) (by decide) (by decide)
theorem rS_put {k : Nat} {v : Int} (hs : rS S N B T X V h) (hk : (rF S).set k (.int (jn v)) = rF (jvu S k v)) : rS (jvu S k v) N B T X V (h.set 0 (.inr (10, (rF S).set k (.int (jn v))))) := by
  rw [hk]
  exact jS_cell hs (by decide) (by decide) (by decide) _
theorem rS_setN (N' : Nat → Int) (hs : rS S N B T X V h) : rS S N' B T X V (h.set 1 (.inl (1, 91, fun j => .long (jl (N' j))))) := jS_cell hs (by decide) (by decide) (by decide) _
theorem rS_setB (B' : Nat → Int) (hs : rS S N B T X V h) : rS S N B' T X V (h.set 2 (.inl (1, 728, fun j => .long (jl (B' j))))) := jS_cell hs (by decide) (by decide) (by decide) _
theorem rS_setT (T' : Nat → Int) (hs : rS S N B T X V h) : rS S N B T' X V (h.set 6 (.inl (0, 200, fun j => .int (jn (T' j))))) := jS_cell hs (by decide) (by decide) (by decide) _
theorem rS_setX (X' : Nat → Int) (hs : rS S N B T X V h) : rS S N B T X' V (h.set 7 (.inl (0, 600, fun j => .int (jn (X' j))))) := jS_cell hs (by decide) (by decide) (by decide) _
section RST
variable {pc n r1 r2 r3 r4 r5 : Nat} {M : mj_M} {loc : mj_L} {st : List Value} {Q : mj_R → Prop}
/-- a field of the reference is read, is written -/
theorem rT_get {f : Nat} {v : Value} (hs : rS S N B T X V h) (hc : M.2.2.2.2.1 pc = some (.getfield n, 10, f, r3, r4, r5)) (hf : (rF S)[f]? = some v) (k : mj_T D M (pc + 3) loc (v :: st) h Q) : mj_T D M pc loc (.ref 0 :: st) h Q := mj_T.gfl hc (rS_f hs) hf k
theorem rT_put {f : Nat} {v : Int} (hs : rS S N B T X V h) (hc : M.2.2.2.2.1 pc = some (.putfield n, 10, f, r3, r4, r5)) (hf : (rF S).set f (.int (jn v)) = rF (jvu S f v)) (hl : f < 16) (hv : mj_fit r3 (.int (jn v)) = true) (k : ∀ h', rS (jvu S f v) N B T X V h' → mj_T D M (pc + 3) loc st h' Q) : mj_T D M pc loc (.int (jn v) :: .ref 0 :: st) h Q := mj_T.pfl hc (rS_f hs) hl hv (k _ (rS_put hs hf))
/-- an element of 'now' or 'before' is read, is written -/
theorem rT_ldN {i : Int} (hs : rS S N B T X V h) (hc : M.2.2.2.2.1 pc = some (.laload, r1, r2, r3, r4, r5)) (h0 : 0 ≤ i ∧ i < 91) (k : mj_T D M (pc + 1) loc (.long (jl (N i.toNat)) :: st) h Q) : mj_T D M pc loc (.int (jn i) :: .ref 1 :: st) h Q := mj_T.lald (g := fun j => jl (N j)) hc (rS_N hs) ⟨by omega, by omega⟩ h0 k
theorem rT_stN {i z : Int} (hs : rS S N B T X V h) (hc : M.2.2.2.2.1 pc = some (.lastore, r1, r2, r3, r4, r5)) (h0 : 0 ≤ i ∧ i < 91) (k : ∀ h', rS S (jvu N i.toNat z) B T X V h' → mj_T D M (pc + 1) loc st h' Q) : mj_T D M pc loc (.long (jl z) :: .int (jn i) :: .ref 1 :: st) h Q := by
  refine mj_T.last (g := fun j => jl (N j)) hc (rS_N hs) ⟨by omega, by omega⟩ h0 (k _ ?_)
  have e : (fun j => Value.long (if j = i.toNat then jl z else jl (N j))) = fun j => Value.long (jl (jvu N i.toNat z j)) := funext fun j => by
    unfold jvu
    split <;> rfl
  rw [e]
  exact rS_setN _ hs
theorem rT_ldT {i : Int} (hs : rS S N B T X V h) (hc : M.2.2.2.2.1 pc = some (.iaload, r1, r2, r3, r4, r5)) (h0 : 0 ≤ i ∧ i < 200) (k : mj_T D M (pc + 1) loc (.int (jn (T i.toNat)) :: st) h Q) : mj_T D M pc loc (.int (jn i) :: .ref 6 :: st) h Q := mj_T.iald (g := fun j => jn (T j)) hc (rS_T hs) ⟨by omega, by omega⟩ h0 k
theorem rT_stT {i z : Int} (hs : rS S N B T X V h) (hc : M.2.2.2.2.1 pc = some (.iastore, r1, r2, r3, r4, r5)) (h0 : 0 ≤ i ∧ i < 200) (k : ∀ h', rS S N B (jvu T i.toNat z) X V h' → mj_T D M (pc + 1) loc st h' Q) : mj_T D M pc loc (.int (jn z) :: .int (jn i) :: .ref 6 :: st) h Q := by
  refine mj_T.iast (g := fun j => jn (T j)) hc (rS_T hs) ⟨by omega, by omega⟩ h0 (k _ ?_)
  have e : (fun j => Value.int (upd (fun j => jn (T j)) i.toNat (jn z) j)) = fun j => Value.int (jn (jvu T i.toNat z j)) := funext fun j => by
    unfold jvu upd
    split <;> rfl
  rw [e]
  exact rS_setT _ hs
theorem rT_ldX {i : Int} (hs : rS S N B T X V h) (hc : M.2.2.2.2.1 pc = some (.iaload, r1, r2, r3, r4, r5)) (h0 : 0 ≤ i ∧ i < 600) (k : mj_T D M (pc + 1) loc (.int (jn (X i.toNat)) :: st) h Q) : mj_T D M pc loc (.int (jn i) :: .ref 7 :: st) h Q := mj_T.iald (g := fun j => jn (X j)) hc (rS_X hs) ⟨by omega, by omega⟩ h0 k
theorem rT_stX {i z : Int} (hs : rS S N B T X V h) (hc : M.2.2.2.2.1 pc = some (.iastore, r1, r2, r3, r4, r5)) (h0 : 0 ≤ i ∧ i < 600) (k : ∀ h', rS S N B T (jvu X i.toNat z) V h' → mj_T D M (pc + 1) loc st h' Q) : mj_T D M pc loc (.int (jn z) :: .int (jn i) :: .ref 7 :: st) h Q := by
  refine mj_T.iast (g := fun j => jn (X j)) hc (rS_X hs) ⟨by omega, by omega⟩ h0 (k _ ?_)
  have e : (fun j => Value.int (upd (fun j => jn (X j)) i.toNat (jn z) j)) = fun j => Value.int (jn (jvu X i.toNat z j)) := funext fun j => by
    unfold jvu upd
    split <;> rfl
  rw [e]
  exact rS_setX _ hs
/-- a piece of 'now' or 'before' is copied -/
theorem rT_cpy {a0 a1 n0 n1 : Nat} {f g : Nat → Int} {s d m : Nat} {ins : Instr} (hc : M.2.2.2.2.1 pc = some (ins, r1, r2, 4, r4, r5)) (hk : mj_kind ins 4 = 4) (h0 : h[a0]? = some (.inl (1, n0, fun j => .long (jl (f j))))) (h1 : h[a1]? = some (.inl (1, n1, fun j => .long (jl (g j))))) (c1 : s + m ≤ n0) (c2 : d + m ≤ n1) (c3 : s ≤ 1000 ∧ d ≤ 1000 ∧ m ≤ 1000) (hcat : mj_cat st ≤ 20)
    (k : mj_T D M (pc + 3) loc st (h.set a1 (.inl (1, n1, fun j => .long (jl (va_cpy f g s d m j))))) Q) : mj_T D M pc loc (.int (jn (m : Nat)) :: .int (jn (d : Nat)) :: .ref a1 :: .int (jn (s : Nat)) :: .ref a0 :: st) h Q := by
  have rs : jr (s : Int) := ⟨by omega, by omega⟩
  have rd : jr (d : Int) := ⟨by omega, by omega⟩
  have rm : jr (m : Int) := ⟨by omega, by omega⟩
  have z : jr 0 := ⟨by omega, by omega⟩
  have e1 : (jn (s : Nat)).toNatClampNeg = s := by rw [jn_nat (by omega) rs]; rfl
  have e2 : (jn (d : Nat)).toNatClampNeg = d := by rw [jn_nat (by omega) rd]; rfl
  have e3 : (jn (m : Nat)).toNatClampNeg = m := by rw [jn_nat (by omega) rm]; rfl
  have g0 : ∀ k : Nat, jr (k : Int) → (0 : Int32) ≤ jn (k : Nat) := fun k hk => by
    rw [show (0 : Int32) = jn 0 from rfl, jn_le z hk]; omega
  refine mj_T.prim hc hk ?_ k
  simp only [mj_prim, h0, h1, e1, e2, e3]
  rw [if_pos ⟨hcat, trivial, Or.inr trivial, g0 s rs, g0 d rd, g0 m rm, c1, c2, by simp [mj_cpok, mj_islong]⟩]
  have e : va_cpy (fun j => Value.long (jl (f j))) (fun j => Value.long (jl (g j))) s d m = fun j => .long (jl (va_cpy f g s d m j)) := by
    funext j
    unfold va_cpy
    split <;> rfl
  rw [e]
end RST
end RS
/-- what the registers and points keep -/
def gN (N : Nat → Int) : Prop := (∀ j, j < 78 → -999999999999999999 ≤ N j ∧ N j ≤ 999999999999999999) ∧ (0 ≤ N 78 ∧ N 78 ≤ 6) ∧ (∀ k, k < 6 → (-9 ≤ N (79 + k) ∧ N (79 + k) ≤ 9) ∧ (-999 ≤ N (85 + k) ∧ N (85 + k) ≤ 999)) ∧ (∀ i j : Nat, i < j → (j : Int) < N 78 → N (79 + i) ≠ N (79 + j))
/-- what holds between two calls; tm: the text's length, er: where the error is, T: the text -/
def jK (tm er : Int) (S N B T : Nat → Int) : Prop := gN N ∧ (0 ≤ S 2 ∧ S 2 ≤ 8) ∧ (∀ k : Nat, (k : Int) < S 2 → gN (fun j => B (k * 91 + j))) ∧ (S 9 = tm ∧ 0 ≤ tm ∧ tm ≤ 200) ∧ S 12 = er ∧ (0 ≤ S 15 ∧ S 15 ≤ 600) ∧ (∀ k, jr (S k)) ∧ (S 13 = 0 ∨ S 13 = 1) ∧ (∀ j : Nat, (j : Int) < tm → 1 ≤ T j ∧ T j ≤ 255)
def jI (tm er : Int) (T : Nat → Int) (h : mj_H) : Prop := ∃ S N B X V : Nat → Int, rS S N B T X V h ∧ jK tm er S N B T
def rI (tm er : Int) (T : Nat → Int) (r : mj_R) : Prop := ∃ (z : Int) (h' : mj_H), jr z ∧ r = (.inl (some (.int (jn z))), h') ∧ jI tm er T h'
def rJ (tm er : Int) (T : Nat → Int) (r : mj_R) : Prop := ∃ (z : Int) (h' : mj_H), r = (.inl (some (.long (jl z))), h') ∧ jI tm er T h'
theorem jK.put {tm er : Int} {S N B T : Nat → Int} (K : jK tm er S N B T) {k : Nat} {v : Int} (hv : jr v) (h2 : k ≠ 2) (h9 : k ≠ 9) (h12 : k ≠ 12) (h15 : k ≠ 15) (h13 : k ≠ 13) : jK tm er (jvu S k v) N B T := by
  obtain ⟨k1, k2, k3, k4, k5, k6, k7, k8, k9⟩ := K
  have e : ∀ x, x ≠ k → jvu S k v x = S x := fun x hx => jvu_ne _ _ _ hx
  refine ⟨k1, by rw [e 2 (Ne.symm h2)]; exact k2, fun j hj => k3 j (by rw [e 2 (Ne.symm h2)] at hj; exact hj), by rw [e 9 (Ne.symm h9)]; exact k4, by rw [e 12 (Ne.symm h12)]; exact k5, by rw [e 15 (Ne.symm h15)]; exact k6, fun x => ?_, by rw [e 13 (Ne.symm h13)]; exact k8, k9⟩
  by_cases hx : x = k
  · subst hx
    rw [jvu_at]
    exact hv
  · rw [e x hx]
    exact k7 x
