/-! The reference as a whole: its fields, its rows, and what holds between two calls. -/
def rF (S : Nat → Int) : List Value := [.ref 1, .ref 2, .int (jn (S 2)), .int (jn (S 3)), .ref 3, .ref 4, .ref 5, .int (jn (S 7)), .ref 6, .int (jn (S 9)), .int (jn (S 10)), .int (jn (S 11)), .int (jn (S 12)), .int (jn (S 13)), .ref 7, .int (jn (S 15))]
def rH (S N B T X : Nat → Int) : mj_H := [.inr (10, rF S), .inl (1, 91, fun j => .long (jl (N j))), .inl (1, 728, fun j => .long (jl (B j))), .inl (0, 466830, fun _ => .int (jn 0)), .inl (0, 1404, fun _ => .int (jn 0)), .inl (0, 702, fun _ => .int (jn 0)), .inl (0, 200, fun j => .int (jn (T j))), .inl (0, 600, fun j => .int (jn (X j)))]
def rS (S N B T X V : Nat → Int) (h : mj_H) : Prop := jS (rH S N B T X) 3 4 5 V h
theorem rG (S N B T X : Nat → Int) : jG (rH S N B T X) 0 3 4 5 (rF S) := ⟨⟨⟨rfl, rfl, by decide, by show 3 < 8; decide⟩, rfl, by decide, by decide, by show 4 < 8; decide⟩, rfl, by decide, by decide, by decide, by show 5 < 8; decide⟩
section RS
variable {S N B T X V : Nat → Int} {h : mj_H} {D : Nat}
theorem jS_at {hp : mj_H} {q1 q2 q3 p : Nat} (hs : jS hp q1 q2 q3 V h) (n1 : p ≠ q1) (n2 : p ≠ q2) (n3 : p ≠ q3) : h[p]? = hp[p]? := by
  obtain ⟨bg, ov, db, hV, rfl⟩ := hs
  rw [List.getElem?_set_ne (Ne.symm n1), List.getElem?_set_ne (Ne.symm n2), List.getElem?_set_ne (Ne.symm n3)]
theorem jS_cell {hp : mj_H} {q1 q2 q3 p : Nat} (hs : jS hp q1 q2 q3 V h) (n1 : p ≠ q1) (n2 : p ≠ q2) (n3 : p ≠ q3) (e : mj_E) : jS (hp.set p e) q1 q2 q3 V (h.set p e) := by
  obtain ⟨bg, ov, db, hV, rfl⟩ := hs
  refine ⟨bg, ov, db, hV, ?_⟩
  show ((((hp.set q3 _).set q2 _).set q1 _).set p e) = (((hp.set p e).set q3 _).set q2 _).set q1 _
  rw [List.set_comm _ _ (Ne.symm n1), List.set_comm _ _ (Ne.symm n2), List.set_comm _ _ (Ne.symm n3)]
theorem rS_f (hs : rS S N B T X V h) : h[0]? = some (.inr (10, rF S)) := jS_at hs (by decide) (by decide) (by decide)
theorem rS_N (hs : rS S N B T X V h) : h[1]? = some (.inl (1, 91, fun j => .long (jl (N j)))) := jS_at hs (by decide) (by decide) (by decide)
theorem rS_B (hs : rS S N B T X V h) : h[2]? = some (.inl (1, 728, fun j => .long (jl (B j)))) := jS_at hs (by decide) (by decide) (by decide)
theorem rS_T (hs : rS S N B T X V h) : h[6]? = some (.inl (0, 200, fun j => .int (jn (T j)))) := jS_at hs (by decide) (by decide) (by decide)
theorem rS_X (hs : rS S N B T X V h) : h[7]? = some (.inl (0, 600, fun j => .int (jn (X j)))) := jS_at hs (by decide) (by decide) (by decide)
theorem rS_put {k : Nat} {v : Int} (hs : rS S N B T X V h) (hk : (rF S).set k (.int (jn v)) = rF (jvu S k v)) : rS (jvu S k v) N B T X V (h.set 0 (.inr (10, (rF S).set k (.int (jn v))))) := by
  rw [hk]
  exact jS_cell hs (by decide) (by decide) (by decide) _
theorem rS_setN (N' : Nat → Int) (hs : rS S N B T X V h) : rS S N' B T X V (h.set 1 (.inl (1, 91, fun j => .long (jl (N' j))))) := jS_cell hs (by decide) (by decide) (by decide) _
theorem rS_setB (B' : Nat → Int) (hs : rS S N B T X V h) : rS S N B' T X V (h.set 2 (.inl (1, 728, fun j => .long (jl (B' j))))) := jS_cell hs (by decide) (by decide) (by decide) _
theorem rS_setT (T' : Nat → Int) (hs : rS S N B T X V h) : rS S N B T' X V (h.set 6 (.inl (0, 200, fun j => .int (jn (T' j))))) := jS_cell hs (by decide) (by decide) (by decide) _
theorem rS_setX (X' : Nat → Int) (hs : rS S N B T X V h) : rS S N B T X' V (h.set 7 (.inl (0, 600, fun j => .int (jn (X' j))))) := jS_cell hs (by decide) (by decide) (by decide) _
section RST
variable {pc n r1 r2 r3 r4 r5 : Nat} {M : mj_M} {loc : mj_L} {st : List Value} {Q : mj_R → Prop}
/-- a field of the reference is read, is written -/
theorem rT_get {f : Nat} {v : Value} (hs : rS S N B T X V h) (hc : M.2.2.2.2.1 pc = some (.getfield n, 10, f, r3, r4, r5)) (hf : (rF S)[f]? = some v) (k : mj_T D M (pc + 3) loc (v :: st) h Q) : mj_T D M pc loc (.ref 0 :: st) h Q := mj_T.gfl hc (rS_f hs) hf k
theorem rT_put {f : Nat} {v : Int} (hs : rS S N B T X V h) (hc : M.2.2.2.2.1 pc = some (.putfield n, 10, f, r3, r4, r5)) (hf : (rF S).set f (.int (jn v)) = rF (jvu S f v)) (hl : f < 16) (hv : mj_fit r3 (.int (jn v)) = true) (k : ∀ h', rS (jvu S f v) N B T X V h' → mj_T D M (pc + 3) loc st h' Q) : mj_T D M pc loc (.int (jn v) :: .ref 0 :: st) h Q := mj_T.pfl hc (rS_f hs) hl hv (k _ (rS_put hs hf))
/-- an element of 'now' or 'before' is read, is written -/
theorem rT_ldN {i : Int} (hs : rS S N B T X V h) (hc : M.2.2.2.2.1 pc = some (.laload, r1, r2, r3, r4, r5)) (h0 : 0 ≤ i ∧ i < 91) (k : mj_T D M (pc + 1) loc (.long (jl (N i.toNat)) :: st) h Q) : mj_T D M pc loc (.int (jn i) :: .ref 1 :: st) h Q := mj_T.lald (g := fun j => jl (N j)) hc (rS_N hs) ⟨by omega, by omega⟩ h0 k
theorem rT_stN {i z : Int} (hs : rS S N B T X V h) (hc : M.2.2.2.2.1 pc = some (.lastore, r1, r2, r3, r4, r5)) (h0 : 0 ≤ i ∧ i < 91) (k : ∀ h', rS S (jvu N i.toNat z) B T X V h' → mj_T D M (pc + 1) loc st h' Q) : mj_T D M pc loc (.long (jl z) :: .int (jn i) :: .ref 1 :: st) h Q := by
  refine mj_T.last (g := fun j => jl (N j)) hc (rS_N hs) ⟨by omega, by omega⟩ h0 (k _ ?_)
  have e : (fun j => Value.long (if j = i.toNat then jl z else jl (N j))) = fun j => Value.long (jl (jvu N i.toNat z j)) := funext fun j => by
    unfold jvu
    split <;> rfl
  rw [e]
  exact rS_setN _ hs
theorem rT_ldT {i : Int} (hs : rS S N B T X V h) (hc : M.2.2.2.2.1 pc = some (.iaload, r1, r2, r3, r4, r5)) (h0 : 0 ≤ i ∧ i < 200) (k : mj_T D M (pc + 1) loc (.int (jn (T i.toNat)) :: st) h Q) : mj_T D M pc loc (.int (jn i) :: .ref 6 :: st) h Q := mj_T.iald (g := fun j => jn (T j)) hc (rS_T hs) ⟨by omega, by omega⟩ h0 k
theorem rT_stT {i z : Int} (hs : rS S N B T X V h) (hc : M.2.2.2.2.1 pc = some (.iastore, r1, r2, r3, r4, r5)) (h0 : 0 ≤ i ∧ i < 200) (k : ∀ h', rS S N B (jvu T i.toNat z) X V h' → mj_T D M (pc + 1) loc st h' Q) : mj_T D M pc loc (.int (jn z) :: .int (jn i) :: .ref 6 :: st) h Q := by
  refine mj_T.iast (g := fun j => jn (T j)) hc (rS_T hs) ⟨by omega, by omega⟩ h0 (k _ ?_)
  have e : (fun j => Value.int (upd (fun j => jn (T j)) i.toNat (jn z) j)) = fun j => Value.int (jn (jvu T i.toNat z j)) := funext fun j => by
    unfold jvu upd
    split <;> rfl
  rw [e]
  exact rS_setT _ hs
theorem rT_ldX {i : Int} (hs : rS S N B T X V h) (hc : M.2.2.2.2.1 pc = some (.iaload, r1, r2, r3, r4, r5)) (h0 : 0 ≤ i ∧ i < 600) (k : mj_T D M (pc + 1) loc (.int (jn (X i.toNat)) :: st) h Q) : mj_T D M pc loc (.int (jn i) :: .ref 7 :: st) h Q := mj_T.iald (g := fun j => jn (X j)) hc (rS_X hs) ⟨by omega, by omega⟩ h0 k
theorem rT_stX {i z : Int} (hs : rS S N B T X V h) (hc : M.2.2.2.2.1 pc = some (.iastore, r1, r2, r3, r4, r5)) (h0 : 0 ≤ i ∧ i < 600) (k : ∀ h', rS S N B T (jvu X i.toNat z) V h' → mj_T D M (pc + 1) loc st h' Q) : mj_T D M pc loc (.int (jn z) :: .int (jn i) :: .ref 7 :: st) h Q := by
  refine mj_T.iast (g := fun j => jn (X j)) hc (rS_X hs) ⟨by omega, by omega⟩ h0 (k _ ?_)
  have e : (fun j => Value.int (upd (fun j => jn (X j)) i.toNat (jn z) j)) = fun j => Value.int (jn (jvu X i.toNat z j)) := funext fun j => by
    unfold jvu upd
    split <;> rfl
  rw [e]
  exact rS_setX _ hs
/-- a piece of 'now' or 'before' is copied -/
theorem rT_cpy {a0 a1 n0 n1 : Nat} {f g : Nat → Int} {s d m : Nat} {ins : Instr} (hc : M.2.2.2.2.1 pc = some (ins, r1, r2, 4, r4, r5)) (hk : mj_kind ins 4 = 4) (h0 : h[a0]? = some (.inl (1, n0, fun j => .long (jl (f j))))) (h1 : h[a1]? = some (.inl (1, n1, fun j => .long (jl (g j))))) (c1 : s + m ≤ n0) (c2 : d + m ≤ n1) (c3 : s ≤ 1000 ∧ d ≤ 1000 ∧ m ≤ 1000) (hcat : mj_cat st ≤ 20)
    (k : mj_T D M (pc + 3) loc st (h.set a1 (.inl (1, n1, fun j => .long (jl (va_cpy f g s d m j))))) Q) : mj_T D M pc loc (.int (jn (m : Nat)) :: .int (jn (d : Nat)) :: .ref a1 :: .int (jn (s : Nat)) :: .ref a0 :: st) h Q := by
  have rs : jr (s : Int) := ⟨by omega, by omega⟩
  have rd : jr (d : Int) := ⟨by omega, by omega⟩
  have rm : jr (m : Int) := ⟨by omega, by omega⟩
  have z : jr 0 := ⟨by omega, by omega⟩
  have e1 : (jn (s : Nat)).toNatClampNeg = s := by rw [jn_nat (by omega) rs]; rfl
  have e2 : (jn (d : Nat)).toNatClampNeg = d := by rw [jn_nat (by omega) rd]; rfl
  have e3 : (jn (m : Nat)).toNatClampNeg = m := by rw [jn_nat (by omega) rm]; rfl
  have g0 : ∀ k : Nat, jr (k : Int) → (0 : Int32) ≤ jn (k : Nat) := fun k hk => by
    rw [show (0 : Int32) = jn 0 from rfl, jn_le z hk]; omega
  refine mj_T.prim hc hk ?_ k
  simp only [mj_prim, h0, h1, e1, e2, e3]
  rw [if_pos ⟨hcat, trivial, Or.inr trivial, g0 s rs, g0 d rd, g0 m rm, c1, c2, by simp [mj_cpok, mj_islong]⟩]
  have e : va_cpy (fun j => Value.long (jl (f j))) (fun j => Value.long (jl (g j))) s d m = fun j => .long (jl (va_cpy f g s d m j)) := by
    funext j
    unfold va_cpy
    split <;> rfl
  rw [e]
end RST
end RS
/-- what the registers and points keep -/
def gN (N : Nat → Int) : Prop := (∀ j, j < 78 → -999999999999999999 ≤ N j ∧ N j ≤ 999999999999999999) ∧ (0 ≤ N 78 ∧ N 78 ≤ 6) ∧ (∀ k, k < 6 → (-9 ≤ N (79 + k) ∧ N (79 + k) ≤ 9) ∧ (-999 ≤ N (85 + k) ∧ N (85 + k) ≤ 999)) ∧ (∀ i j : Nat, i < j → (j : Int) < N 78 → N (79 + i) ≠ N (79 + j))
/-- what holds between two calls; tm: the text's length, er: where the error is, T: the text -/
def jK (tm er : Int) (S N B T : Nat → Int) : Prop := gN N ∧ (0 ≤ S 2 ∧ S 2 ≤ 8) ∧ (∀ k : Nat, (k : Int) < S 2 → gN (fun j => B (k * 91 + j))) ∧ (S 9 = tm ∧ 0 ≤ tm ∧ tm ≤ 200) ∧ S 12 = er ∧ (0 ≤ S 15 ∧ S 15 ≤ 600) ∧ (∀ k, jr (S k)) ∧ (S 13 = 0 ∨ S 13 = 1) ∧ (∀ j : Nat, (j : Int) < tm → 1 ≤ T j ∧ T j ≤ 255)
def jI (tm er : Int) (T : Nat → Int) (h : mj_H) : Prop := ∃ S N B X V : Nat → Int, rS S N B T X V h ∧ jK tm er S N B T
def rI (tm er : Int) (T : Nat → Int) (r : mj_R) : Prop := ∃ (z : Int) (h' : mj_H), jr z ∧ r = (.inl (some (.int (jn z))), h') ∧ jI tm er T h'
def rJ (tm er : Int) (T : Nat → Int) (r : mj_R) : Prop := ∃ (z : Int) (h' : mj_H), r = (.inl (some (.long (jl z))), h') ∧ jI tm er T h'
theorem jK.put {tm er : Int} {S N B T : Nat → Int} (K : jK tm er S N B T) {k : Nat} {v : Int} (hv : jr v) (h2 : k ≠ 2) (h9 : k ≠ 9) (h12 : k ≠ 12) (h15 : k ≠ 15) (h13 : k ≠ 13) : jK tm er (jvu S k v) N B T := by
  obtain ⟨k1, k2, k3, k4, k5, k6, k7, k8, k9⟩ := K
  have e : ∀ x, x ≠ k → jvu S k v x = S x := fun x hx => jvu_ne _ _ _ hx
  refine ⟨k1, by rw [e 2 (Ne.symm h2)]; exact k2, fun j hj => k3 j (by rw [e 2 (Ne.symm h2)] at hj; exact hj), by rw [e 9 (Ne.symm h9)]; exact k4, by rw [e 12 (Ne.symm h12)]; exact k5, by rw [e 15 (Ne.symm h15)]; exact k6, fun x => ?_, by rw [e 13 (Ne.symm h13)]; exact k8, k9⟩
  by_cases hx : x = k
  · subst hx
    rw [jvu_at]
    exact hv
  · rw [e x hx]
    exact k7 x
/-! The reference's small methods. -/
theorem jS_700 {hp h : mj_H} {q1 q2 q3 : Nat} {V : Nat → Int} (hs : jS hp q1 q2 q3 V h) {s : Nat} (hl : s < 665) : jnl (V s).natAbs ≤ 700 := by
  obtain ⟨bg, ov, db, hV, _⟩ := hs
  exact (hV s hl).2.2.2
section RSM
variable {S N B T X V : Nat → Int} {h : mj_H} {D : Nat}
theorem rp_in {v lo hi : Int} (h1 : jR v) (h2 : jR lo) (h3 : jR hi) : mj_Ok (D + 1) 177 [.long (jl v), .long (jl lo), .long (jl hi)] h (fun r => (lo ≤ v ∧ v ≤ hi ∧ r = (.inl (some (.int (jn 1))), h)) ∨ ((v < lo ∨ hi < v) ∧ r = (.inl (some (.int (jn 0))), h))) := by
  refine mj_Ok.of (M := mj_m177) rfl rfl rfl ?_
  iterate 2 refine mj_T.pl rfl rfl rfl rfl ?_
  refine mj_T.lif (a := v) (b := lo) rfl rfl h1 h2 (fun hc => ?_) (fun hc => ?_)
  · simp only [jc, decide_eq_true_eq] at hc
    refine mj_T.pl rfl rfl rfl rfl ?_
    exact mj_T.ret rfl rfl rfl (Or.inr ⟨Or.inl hc, rfl⟩)
  simp only [jc, decide_eq_false_iff_not] at hc
  iterate 2 refine mj_T.pl rfl rfl rfl rfl ?_
  refine mj_T.lif (a := v) (b := hi) rfl rfl h1 h3 (fun hc2 => ?_) (fun hc2 => ?_)
  · simp only [jc, decide_eq_true_eq] at hc2
    refine mj_T.pl rfl rfl rfl rfl ?_
    exact mj_T.ret rfl rfl rfl (Or.inr ⟨Or.inr hc2, rfl⟩)
  · simp only [jc, decide_eq_false_iff_not] at hc2
    iterate 2 refine mj_T.pl rfl rfl rfl rfl ?_
    exact mj_T.ret rfl rfl rfl (Or.inl ⟨by omega, by omega, rfl⟩)
theorem rp_isRegister {x : Int} (hx : jr x) : mj_Ok (D + 2) 223 [.int (jn x)] h (fun r => (0 ≤ x ∧ x ≤ 5 ∧ r = (.inl (some (.int (jn 1))), h)) ∨ ((x < 0 ∨ 5 < x) ∧ r = (.inl (some (.int (jn 0))), h))) := by
  refine mj_Ok.of (M := mj_m223) rfl rfl rfl ?_
  refine mj_T.pl rfl rfl rfl rfl ?_
  refine mj_T.i2l rfl hx ?_
  iterate 2 refine mj_T.pl rfl rfl rfl rfl ?_
  refine mj_T.call (ins := .invokestatic 177) rfl rfl (Nat.le_of_ble_eq_true rfl) (Nat.le_of_ble_eq_true rfl) rfl rfl (rp_in (D := D) (v := x) (lo := 0) (hi := 5) ⟨by have := hx.1; omega, by have := hx.2; omega⟩ ⟨by decide, by decide⟩ ⟨by decide, by decide⟩) (fun v' h1 hq' => ?_) (fun i h' hq' => by rcases hq' with ⟨_, _, h⟩ | ⟨_, h⟩ <;> cases h)
  rcases hq' with ⟨c1, c2, hq'⟩ | ⟨c1, hq'⟩
  · cases hq'
    exact mj_T.ret rfl rfl rfl (Or.inl ⟨c1, c2, rfl⟩)
  · cases hq'
    exact mj_T.ret rfl rfl rfl (Or.inr ⟨c1, rfl⟩)
theorem rp_areRegisters {x y z : Int} (hx : jr x) (hy : jr y) (hz : jr z) : mj_Ok (D + 3) 224 [.int (jn x), .int (jn y), .int (jn z)] h (fun r => ((0 ≤ x ∧ x ≤ 5) ∧ (0 ≤ y ∧ y ≤ 5 ∧ 0 ≤ z ∧ z ≤ 5) ∧ r = (.inl (some (.int (jn 1))), h)) ∨ (True ∧ r = (.inl (some (.int (jn 0))), h))) := by
  refine mj_Ok.of (M := mj_m224) rfl rfl rfl ?_
  refine mj_T.pl rfl rfl rfl rfl ?_
  refine mj_T.call (ins := .invokestatic 181) rfl rfl (Nat.le_of_ble_eq_true rfl) (Nat.le_of_ble_eq_true rfl) rfl rfl (rp_isRegister (D := D) hx) (fun v' h1 hq' => ?_) (fun i h' hq' => by rcases hq' with ⟨_, _, h⟩ | ⟨_, h⟩ <;> cases h)
  rcases hq' with ⟨x1, x2, hq'⟩ | ⟨_, hq'⟩
  case' inr =>
    cases hq'
    refine mj_T.if0 (a := 0) rfl ⟨by decide, by decide⟩ (fun hc => ?_) (fun hc => ?_)
    · refine mj_T.pl rfl rfl rfl rfl ?_
      exact mj_T.ret rfl rfl rfl (Or.inr ⟨trivial, rfl⟩)
    · simp [jc] at hc
  cases hq'
  refine mj_T.if0 (a := 1) rfl ⟨by decide, by decide⟩ (fun hc => ?_) (fun hc => ?_)
  · simp [jc] at hc
  refine mj_T.pl rfl rfl rfl rfl ?_
  refine mj_T.call (ins := .invokestatic 181) rfl rfl (Nat.le_of_ble_eq_true rfl) (Nat.le_of_ble_eq_true rfl) rfl rfl (rp_isRegister (D := D) hy) (fun v' h1 hq' => ?_) (fun i h' hq' => by rcases hq' with ⟨_, _, h⟩ | ⟨_, h⟩ <;> cases h)
  rcases hq' with ⟨y1, y2, hq'⟩ | ⟨_, hq'⟩
  case' inr =>
    cases hq'
    refine mj_T.if0 (a := 0) rfl ⟨by decide, by decide⟩ (fun hc => ?_) (fun hc => ?_)
    · refine mj_T.pl rfl rfl rfl rfl ?_
      exact mj_T.ret rfl rfl rfl (Or.inr ⟨trivial, rfl⟩)
    · simp [jc] at hc
  cases hq'
  refine mj_T.if0 (a := 1) rfl ⟨by decide, by decide⟩ (fun hc => ?_) (fun hc => ?_)
  · simp [jc] at hc
  refine mj_T.pl rfl rfl rfl rfl ?_
  refine mj_T.call (ins := .invokestatic 181) rfl rfl (Nat.le_of_ble_eq_true rfl) (Nat.le_of_ble_eq_true rfl) rfl rfl (rp_isRegister (D := D) hz) (fun v' h1 hq' => ?_) (fun i h' hq' => by rcases hq' with ⟨_, _, h⟩ | ⟨_, h⟩ <;> cases h)
  rcases hq' with ⟨z1, z2, hq'⟩ | ⟨_, hq'⟩
  case' inr =>
    cases hq'
    refine mj_T.if0 (a := 0) rfl ⟨by decide, by decide⟩ (fun hc => ?_) (fun hc => ?_)
    · refine mj_T.pl rfl rfl rfl rfl ?_
      exact mj_T.ret rfl rfl rfl (Or.inr ⟨trivial, rfl⟩)
    · simp [jc] at hc
  cases hq'
  refine mj_T.if0 (a := 1) rfl ⟨by decide, by decide⟩ (fun hc => ?_) (fun hc => ?_)
  · simp [jc] at hc
  iterate 2 refine mj_T.pl rfl rfl rfl rfl ?_
  exact mj_T.ret rfl rfl rfl (Or.inl ⟨⟨x1, x2⟩, ⟨y1, y2, z1, z2⟩, rfl⟩)
theorem rp_fails {c : Int} (hs : rS S N B T X V h) : mj_Ok (D + 1) 176 [.ref 0, .int (jn c)] h (fun r => ∃ h', rS (jvu S 3 c) N B T X V h' ∧ r = (.inl (some (.int (jn 0))), h')) := by
  refine mj_Ok.of (M := mj_m176) rfl rfl rfl ?_
  iterate 2 refine mj_T.pl rfl rfl rfl rfl ?_
  refine rT_put (v := c) hs rfl rfl (by decide) rfl (fun h1 hs1 => ?_)
  refine mj_T.pl rfl rfl rfl rfl ?_
  exact mj_T.ret rfl rfl rfl ⟨h1, hs1, rfl⟩
theorem rp_dgi_loop {r : Nat} (hr : r ≤ 5) (hN : ∀ j, j < 78 → jR (N j)) (hs : rS S N B T X V h) {Q : mj_R → Prop} (hend : Q (.inl (some (.int (jn ((jdg N r 13 : Int) - 1)))), h)) :
    ∀ m : Nat, m ≤ 13 → (∀ e, m ≤ e → e < 13 → N (r * 13 + e) = 0) → mj_T D mj_m226 3 [some (.ref 0), some (.int (jn (r : Nat))), some (.int (jn ((m : Int) - 1)))] [] h Q := by
  intro m
  induction m with
  | zero =>
    intro _ hz
    have e0 : jdg N r 13 = 0 := by
      have := jdg_of_zero (W := N) (p := r) (d := 0) (k := 13) (fun e _ he => hz e (by omega) he)
      omega
    rw [e0] at hend
    refine mj_T.pl rfl rfl rfl rfl ?_
    refine mj_T.if0 (a := ((0 : Nat) : Int) - 1) rfl ⟨by decide, by decide⟩ (fun hc => ?_) (fun hc => ?_)
    · refine mj_T.pl rfl rfl rfl rfl ?_
      exact mj_T.ret rfl rfl rfl hend
    · simp [jc] at hc
  | succ m ih =>
    intro hm hz
    refine mj_T.pl rfl rfl rfl rfl ?_
    refine mj_T.if0 (a := ((m + 1 : Nat) : Int) - 1) rfl ⟨by omega, by omega⟩ (fun hc => ?_) (fun hc => ?_)
    · simp only [jc, decide_eq_true_eq] at hc
      omega
    refine mj_T.pl rfl rfl rfl rfl ?_
    refine rT_get hs rfl rfl ?_
    iterate 2 refine mj_T.pl rfl rfl rfl rfl ?_
    refine mj_T.imul (a := (r : Int)) (b := 13) rfl ?_
    refine mj_T.pl rfl rfl rfl rfl ?_
    refine mj_T.iadd rfl ?_
    rw [show (r : Int) * 13 + (((m + 1 : Nat) : Int) - 1) = ((r * 13 + m : Nat) : Int) by omega]
    refine rT_ldN hs rfl ⟨by omega, by omega⟩ ?_
    rw [Int.toNat_natCast]
    refine mj_T.pl rfl rfl rfl rfl ?_
    refine mj_T.lif (a := N (r * 13 + m)) (b := 0) rfl rfl (hN _ (by omega)) ⟨by decide, by decide⟩ (fun hc2 => ?_) (fun hc2 => ?_)
    · simp only [jc, Bool.not_eq_true', decide_eq_false_iff_not] at hc2
      have e1 : jdg N r 13 = m + 1 := by
        have h1 := jdg_of_zero (W := N) (p := r) (d := m + 1) (k := 13) hz
        have h2 := jdg_le N r 13
        rcases Nat.lt_or_ge (jdg N r 13) (m + 1) with c | c
        · exact absurd (jdg_zero N r 13 m (by omega) (by omega)) hc2
        · omega
      rw [e1] at hend
      refine mj_T.pl rfl rfl rfl rfl ?_
      exact mj_T.ret rfl rfl rfl hend
    · simp only [jc, Bool.not_eq_false', decide_eq_true_eq] at hc2
      refine mj_T.iinc (a := ((m + 1 : Nat) : Int) - 1) rfl rfl ?_
      refine mj_T.pl rfl rfl rfl rfl ?_
      rw [show ((m + 1 : Nat) : Int) - 1 + -1 = (m : Int) - 1 by omega]
      refine ih (by omega) (fun e h1 h2 => ?_)
      by_cases q : e = m
      · subst q
        exact hc2
      · exact hz e (by omega) h2
theorem rp_degreeIn {r : Nat} (hr : r ≤ 5) (hN : ∀ j, j < 78 → jR (N j)) (hs : rS S N B T X V h) : mj_Ok (D + 1) 226 [.ref 0, .int (jn (r : Nat))] h (fun z => z = (.inl (some (.int (jn ((jdg N r 13 : Int) - 1)))), h)) := by
  refine mj_Ok.of (M := mj_m226) rfl rfl rfl ?_
  iterate 2 refine mj_T.pl rfl rfl rfl rfl ?_
  exact rp_dgi_loop (D := D) hr hN hs (Q := fun z => z = (.inl (some (.int (jn ((jdg N r 13 : Int) - 1)))), h)) rfl 13 (by decide) (fun e h1 h2 => by omega)
theorem rp_isZero {r : Nat} (hr : r ≤ 5) (hN : ∀ j, j < 78 → jR (N j)) (hs : rS S N B T X V h) : mj_Ok (D + 2) 225 [.ref 0, .int (jn (r : Nat))] h (fun z => (jdg N r 13 = 0 ∧ z = (.inl (some (.int (jn 1))), h)) ∨ (1 ≤ jdg N r 13 ∧ z = (.inl (some (.int (jn 0))), h))) := by
  have hd := jdg_le N r 13
  refine mj_Ok.of (M := mj_m225) rfl rfl rfl ?_
  iterate 2 refine mj_T.pl rfl rfl rfl rfl ?_
  refine mj_T.call (ins := .invokevirtual 185) rfl rfl (Nat.le_of_ble_eq_true rfl) (Nat.le_of_ble_eq_true rfl) (by simp [mj_recv, rS_f hs]) rfl (rp_degreeIn (D := D) hr hN hs) (fun v' h' hq' => ?_) (fun i h' hq' => by cases hq')
  cases hq'
  refine mj_T.if0 (a := (jdg N r 13 : Int) - 1) rfl ⟨by omega, by omega⟩ (fun hc => ?_) (fun hc => ?_)
  · simp only [jc, decide_eq_true_eq] at hc
    refine mj_T.pl rfl rfl rfl rfl ?_
    exact mj_T.ret rfl rfl rfl (Or.inr ⟨by omega, rfl⟩)
  · simp only [jc, decide_eq_false_iff_not] at hc
    iterate 2 refine mj_T.pl rfl rfl rfl rfl ?_
    exact mj_T.ret rfl rfl rfl (Or.inl ⟨by omega, rfl⟩)
theorem rp_loads_loop {p r : Nat} (hp : p ≤ 50) (hr : r ≤ 5) (hN : ∀ j, j < 78 → jR (N j)) {Q : mj_R → Prop} (hend : ∀ h, rS S N B T X (jfl V p (fun e => N (r * 13 + e)) 13) h → Q (.inl none, h)) :
    ∀ (d k : Nat) (h : mj_H), k + d = 13 → rS S N B T X (jfl V p (fun e => N (r * 13 + e)) k) h → mj_T (D + 1) mj_m199 2 [some (.ref 0), some (.int (jn (p : Nat))), some (.int (jn (r : Nat))), some (.int (jn (k : Nat)))] [] h Q := by
  intro d
  induction d with
  | zero =>
    intro k h hk hs
    have hk : k = 13 := by omega
    subst hk
    iterate 2 refine mj_T.pl rfl rfl rfl rfl ?_
    refine mj_T.icmp (a := ((13 : Nat) : Int)) (b := 13) rfl ⟨by decide, by decide⟩ ⟨by decide, by decide⟩ (fun hc => ?_) (fun hc => ?_)
    · exact mj_T.ret rfl rfl rfl (hend h hs)
    · simp [jc] at hc
  | succ d ih =>
    intro k h hk hs
    iterate 2 refine mj_T.pl rfl rfl rfl rfl ?_
    refine mj_T.icmp (a := (k : Int)) (b := 13) rfl ⟨by omega, by omega⟩ ⟨by decide, by decide⟩ (fun hc => ?_) (fun hc => ?_)
    · simp only [jc, decide_eq_true_eq] at hc
      omega
    iterate 3 refine mj_T.pl rfl rfl rfl rfl ?_
    refine mj_T.call (ins := .invokestatic 104) rfl rfl (Nat.le_of_ble_eq_true rfl) (Nat.le_of_ble_eq_true rfl) rfl rfl (jq_slot (D := D) (p := p) (i := k)) (fun v' h' hq' => ?_) (fun i h' hq' => by cases hq')
    cases hq'
    refine mj_T.pl rfl rfl rfl rfl ?_
    refine rT_get hs rfl rfl ?_
    iterate 2 refine mj_T.pl rfl rfl rfl rfl ?_
    refine mj_T.imul (a := (r : Int)) (b := 13) rfl ?_
    refine mj_T.pl rfl rfl rfl rfl ?_
    refine mj_T.iadd rfl ?_
    rw [show (r : Int) * 13 + ((k : Nat) : Int) = ((r * 13 + k : Nat) : Int) by omega]
    refine rT_ldN hs rfl ⟨by omega, by omega⟩ ?_
    rw [Int.toNat_natCast]
    refine mj_T.call (ins := .invokevirtual 45) rfl rfl (Nat.le_of_ble_eq_true rfl) (Nat.le_of_ble_eq_true rfl) (by simp [mj_recv, rS_f hs]) rfl (jS_sets (D := D) (rG S N B T X) (s := p * 13 + k) (v := N (r * 13 + k)) (by omega) (hN _ (by omega)) hs) (fun v' h1 hq' => ?_) (fun i h' hq' => by obtain ⟨_, _, h⟩ := hq'; cases h)
    obtain ⟨_, hs1, hq'⟩ := hq'
    cases hq'
    refine mj_T.iinc (a := k) rfl rfl ?_
    refine mj_T.pl rfl rfl rfl rfl ?_
    exact ih (k + 1) h1 (by omega) (hs1.to (jfl_succ _ _ _ _))
theorem rp_loads {p r : Nat} (hp : p ≤ 50) (hr : r ≤ 5) (hN : ∀ j, j < 78 → jR (N j)) (hs : rS S N B T X V h) : mj_Ok (D + 2) 199 [.ref 0, .int (jn (p : Nat)), .int (jn (r : Nat))] h (fun z => ∃ h', rS S N B T X (jfl V p (fun e => N (r * 13 + e)) 13) h' ∧ z = (.inl none, h')) := by
  refine mj_Ok.of (M := mj_m199) rfl rfl rfl ?_
  iterate 2 refine mj_T.pl rfl rfl rfl rfl ?_
  exact rp_loads_loop (D := D) hp hr hN (fun h k => ⟨h, k, rfl⟩) 13 0 h rfl (hs.to (jfl_zero _ _ _))
theorem rp_asLong_loop {s : Nat} (hl : s < 665) (hs : rS S N B T X V h) {Q : mj_R → Prop} (hend : Q (.inl (some (.long (jl (V s)))), h)) :
    ∀ m : Nat, m ≤ 700 → mj_T (D + 2) mj_m195 11 [some (.ref 0), some (.int (jn (s : Nat))), some (.long (jl (((V s).natAbs / jB ^ m : Nat) : Int))), none, some (.int (jn ((m : Int) - 1)))] [] h Q := by
  intro m
  induction m with
  | zero =>
    intro _
    refine mj_T.pl rfl rfl rfl rfl ?_
    refine mj_T.if0 (a := ((0 : Nat) : Int) - 1) rfl ⟨by decide, by decide⟩ (fun hc => ?_) (fun hc => ?_)
    · iterate 2 refine mj_T.pl rfl rfl rfl rfl ?_
      refine mj_T.call (ins := .invokevirtual 68) rfl rfl (Nat.le_of_ble_eq_true rfl) (Nat.le_of_ble_eq_true rfl) (by simp [mj_recv, rS_f hs]) rfl (jS_sign (D := D + 1) (rG S N B T X) (s := s) hl hs) (fun v' h' hq' => ?_) (fun i h' hq' => by cases hq')
      cases hq'
      have hr := jsg_range (V s)
      rw [Nat.pow_zero, Nat.div_one]
      refine mj_T.if0 (a := jsg (V s)) rfl ⟨by omega, by omega⟩ (fun hc2 => ?_) (fun hc2 => ?_)
      · simp only [jc, decide_eq_true_eq] at hc2
        have hp : ((V s).natAbs : Int) = V s := by
          rcases (show V s < 0 ∨ 0 ≤ V s by omega) with c | c
          · rw [jsg_neg c] at hc2
            omega
          · omega
        rw [hp]
        refine mj_T.pl rfl rfl rfl rfl ?_
        exact mj_T.ret rfl rfl rfl hend
      · simp only [jc, decide_eq_false_iff_not] at hc2
        have hp : -((V s).natAbs : Int) = V s := by
          rcases (show V s < 0 ∨ V s = 0 ∨ 0 < V s by omega) with c | c | c
          · omega
          · rw [c] at hc2
            exact absurd (by decide) hc2
          · rw [jsg_pos c] at hc2
            exact absurd (by decide) hc2
        refine mj_T.pl rfl rfl rfl rfl ?_
        refine mj_T.lneg rfl ?_
        rw [hp]
        refine mj_T.pl rfl rfl rfl rfl ?_
        exact mj_T.ret rfl rfl rfl hend
    · simp [jc] at hc
  | succ m ih =>
    intro hm
    refine mj_T.pl rfl rfl rfl rfl ?_
    refine mj_T.if0 (a := ((m + 1 : Nat) : Int) - 1) rfl ⟨by omega, by omega⟩ (fun hc => ?_) (fun hc => ?_)
    · simp only [jc, decide_eq_true_eq] at hc
      omega
    rw [show ((m + 1 : Nat) : Int) - 1 = (m : Int) by omega]
    iterate 2 refine mj_T.pl rfl rfl rfl rfl ?_
    refine mj_T.lmul (b := 1000000000) rfl ?_
    iterate 3 refine mj_T.pl rfl rfl rfl rfl ?_
    refine mj_T.call (ins := .invokevirtual 64) rfl rfl (Nat.le_of_ble_eq_true rfl) (Nat.le_of_ble_eq_true rfl) (by simp [mj_recv, rS_f hs]) rfl (jS_limb (D := D) (rG S N B T X) (s := s) (j := m) hl (by omega) hs) (fun v' h' hq' => ?_) (fun i h' hq' => by cases hq')
    cases hq'
    have hlb := jlb_lt (V s).natAbs m
    refine mj_T.i2l rfl ⟨by omega, by omega⟩ ?_
    refine mj_T.ladd rfl ?_
    have e : (((V s).natAbs / jB ^ (m + 1) : Nat) : Int) * 1000000000 + ((jlb (V s).natAbs m : Nat) : Int) = (((V s).natAbs / jB ^ m : Nat) : Int) := by
      have e1 : (V s).natAbs / jB ^ (m + 1) = (V s).natAbs / jB ^ m / 1000000000 := by rw [Nat.pow_succ, ← Nat.div_div_eq_div_mul]
      have e2 : jlb (V s).natAbs m = (V s).natAbs / jB ^ m % 1000000000 := rfl
      rw [e1, e2]
      omega
    rw [e]
    refine mj_T.pl rfl rfl rfl rfl ?_
    refine mj_T.iinc (a := (m : Int)) rfl rfl ?_
    refine mj_T.pl rfl rfl rfl rfl ?_
    exact ih (by omega)
theorem rp_asLong {s : Nat} (hl : s < 665) (hs : rS S N B T X V h) : mj_Ok (D + 3) 195 [.ref 0, .int (jn (s : Nat))] h (fun z => z = (.inl (some (.long (jl (V s)))), h)) := by
  have h7 := jS_700 hs hl
  have e0 : (V s).natAbs / jB ^ jnl (V s).natAbs = 0 := jnl_le.mp (Nat.le_refl _)
  refine mj_Ok.of (M := mj_m195) rfl rfl rfl ?_
  iterate 4 refine mj_T.pl rfl rfl rfl rfl ?_
  refine mj_T.call (ins := .invokevirtual 52) rfl rfl (Nat.le_of_ble_eq_true rfl) (Nat.le_of_ble_eq_true rfl) (by simp [mj_recv, rS_f hs]) rfl (jS_length (D := D + 1) (rG S N B T X) (s := s) hl hs) (fun v' h' hq' => ?_) (fun i h' hq' => by cases hq')
  cases hq'
  refine mj_T.pl rfl rfl rfl rfl ?_
  refine mj_T.isub (b := 1) rfl ?_
  refine mj_T.pl rfl rfl rfl rfl ?_
  have k := rp_asLong_loop (D := D) hl hs (Q := fun z => z = (.inl (some (.long (jl (V s)))), h)) rfl (jnl (V s).natAbs) h7
  rw [e0] at k
  exact k
theorem rp_stores_loop {p r : Nat} (hp : p ≤ 50) (hr : r ≤ 5) {Q : mj_R → Prop} (hend : ∀ h, rS S (jfl N r (fun e => V (p * 13 + e)) 13) B T X V h → Q (.inl none, h)) :
    ∀ (d k : Nat) (h : mj_H), k + d = 13 → rS S (jfl N r (fun e => V (p * 13 + e)) k) B T X V h → mj_T (D + 3) mj_m228 2 [some (.ref 0), some (.int (jn (r : Nat))), some (.int (jn (p : Nat))), some (.int (jn (k : Nat)))] [] h Q := by
  intro d
  induction d with
  | zero =>
    intro k h hk hs
    have hk : k = 13 := by omega
    subst hk
    iterate 2 refine mj_T.pl rfl rfl rfl rfl ?_
    refine mj_T.icmp (a := ((13 : Nat) : Int)) (b := 13) rfl ⟨by decide, by decide⟩ ⟨by decide, by decide⟩ (fun hc => ?_) (fun hc => ?_)
    · exact mj_T.ret rfl rfl rfl (hend h hs)
    · simp [jc] at hc
  | succ d ih =>
    intro k h hk hs
    iterate 2 refine mj_T.pl rfl rfl rfl rfl ?_
    refine mj_T.icmp (a := (k : Int)) (b := 13) rfl ⟨by omega, by omega⟩ ⟨by decide, by decide⟩ (fun hc => ?_) (fun hc => ?_)
    · simp only [jc, decide_eq_true_eq] at hc
      omega
    refine mj_T.pl rfl rfl rfl rfl ?_
    refine rT_get hs rfl rfl ?_
    iterate 2 refine mj_T.pl rfl rfl rfl rfl ?_
    refine mj_T.imul (a := (r : Int)) (b := 13) rfl ?_
    refine mj_T.pl rfl rfl rfl rfl ?_
    refine mj_T.iadd rfl ?_
    rw [show (r : Int) * 13 + ((k : Nat) : Int) = ((r * 13 + k : Nat) : Int) by omega]
    iterate 3 refine mj_T.pl rfl rfl rfl rfl ?_
    refine mj_T.call (ins := .invokestatic 104) rfl rfl (Nat.le_of_ble_eq_true rfl) (Nat.le_of_ble_eq_true rfl) rfl rfl (jq_slot (D := D + 2) (p := p) (i := k)) (fun v' h' hq' => ?_) (fun i h' hq' => by cases hq')
    cases hq'
    refine mj_T.call (ins := .invokevirtual 191) rfl rfl (Nat.le_of_ble_eq_true rfl) (Nat.le_of_ble_eq_true rfl) (by simp [mj_recv, rS_f hs]) rfl (rp_asLong (D := D) (s := p * 13 + k) (by omega) hs) (fun v' h' hq' => ?_) (fun i h' hq' => by cases hq')
    cases hq'
    refine rT_stN hs rfl ⟨by omega, by omega⟩ (fun h1 hs1 => ?_)
    rw [Int.toNat_natCast] at hs1
    refine mj_T.iinc (a := k) rfl rfl ?_
    refine mj_T.pl rfl rfl rfl rfl ?_
    refine ih (k + 1) h1 (by omega) ?_
    rw [jfl_succ]
    exact hs1
theorem rp_stores {p r : Nat} (hp : p ≤ 50) (hr : r ≤ 5) (hs : rS S N B T X V h) : mj_Ok (D + 4) 228 [.ref 0, .int (jn (r : Nat)), .int (jn (p : Nat))] h (fun z => ∃ h', rS S (jfl N r (fun e => V (p * 13 + e)) 13) B T X V h' ∧ z = (.inl none, h')) := by
  refine mj_Ok.of (M := mj_m228) rfl rfl rfl ?_
  iterate 2 refine mj_T.pl rfl rfl rfl rfl ?_
  exact rp_stores_loop (D := D) hp hr (fun h k => ⟨h, k, rfl⟩) 13 0 h rfl (by rw [jfl_zero]; exact hs)
end RSM
/-! The reference's undo row, and how a polynomial comes into a register. -/
theorem gN_congr {N N' : Nat → Int} (h : ∀ j, j < 91 → N' j = N j) (g : gN N) : gN N' := by
  obtain ⟨g1, g2, g3, g4⟩ := g
  refine ⟨fun j hj => by rw [h j (by omega)]; exact g1 j hj, by rw [h 78 (by decide)]; exact g2, fun k hk => by rw [h _ (by omega), h _ (by omega)]; exact g3 k hk, fun i j hij hj => ?_⟩
  rw [h 78 (by decide)] at hj
  rw [h _ (by omega), h _ (by omega)]
  exact g4 i j hij hj
theorem jK.nR {tm er : Int} {S N B T : Nat → Int} (K : jK tm er S N B T) : ∀ j, j < 78 → jR (N j) := fun j hj => by
  have := K.1.1 j hj
  exact ⟨by omega, by omega⟩
theorem jvu_jvu (S : Nat → Int) (k : Nat) (a b : Int) : jvu (jvu S k a) k b = jvu S k b := funext fun x => by
  unfold jvu
  split <;> rfl
section RKP
variable {S N B T X V : Nat → Int} {h : mj_H} {D : Nat} {tm er : Int}
theorem rp_keeps (K : jK tm er S N B T) (hs : rS S N B T X V h) : mj_Ok (D + 1) 227 [.ref 0] h (fun z => ∃ (S' B' : Nat → Int) (h' : mj_H), rS S' N B' T X V h' ∧ jK tm er S' N B' T ∧ S' 3 = S 3 ∧ z = (.inl none, h')) := by
  obtain ⟨k1, k2, k3, k4, k5, k6, k7, k8, k9⟩ := K
  have fin : ∀ (c : Nat) (B1 : Nat → Int) (h1 : mj_H), c ≤ 7 → rS (jvu S 2 c) N B1 T X V h1 → (∀ k : Nat, k < c → gN (fun j => B1 (k * 91 + j))) → mj_T D mj_m227 36 [some (.ref 0)] [] h1 (fun z => ∃ (S' B' : Nat → Int) (h' : mj_H), rS S' N B' T X V h' ∧ jK tm er S' N B' T ∧ S' 3 = S 3 ∧ z = (.inl none, h')) := by
    intro c B1 h1 hc hs1 g1
    refine mj_T.pl rfl rfl rfl rfl ?_
    refine rT_get hs1 rfl rfl ?_
    iterate 2 refine mj_T.pl rfl rfl rfl rfl ?_
    refine rT_get hs1 rfl rfl ?_
    refine mj_T.pl rfl rfl rfl rfl ?_
    refine rT_get (v := .int (jn (c : Int))) hs1 rfl (by rw [← jvu_at S 2 (c : Int)]; rfl) ?_
    refine mj_T.pl rfl rfl rfl rfl ?_
    refine mj_T.imul (a := (c : Int)) (b := 91) rfl ?_
    rw [show (c : Int) * 91 = ((c * 91 : Nat) : Int) by omega]
    refine mj_T.pl rfl rfl rfl rfl ?_
    refine rT_cpy (s := 0) (d := c * 91) (m := 91) (f := N) (g := B1) rfl rfl (rS_N hs1) (rS_B hs1) (by decide) (by omega) ⟨by decide, by omega, by decide⟩ (Nat.le_of_ble_eq_true rfl) ?_
    have hs2 := rS_setB (va_cpy N B1 0 (c * 91) 91) hs1
    generalize h1.set 2 _ = h2 at hs2
    iterate 2 refine mj_T.pl rfl rfl rfl rfl ?_
    refine rT_get (v := .int (jn (c : Int))) hs2 rfl (by rw [← jvu_at S 2 (c : Int)]; rfl) ?_
    refine mj_T.pl rfl rfl rfl rfl ?_
    refine mj_T.iadd (a := (c : Int)) (b := 1) rfl ?_
    rw [show (c : Int) + 1 = ((c + 1 : Nat) : Int) by omega]
    refine rT_put (v := ((c + 1 : Nat) : Int)) hs2 rfl rfl (by decide) rfl (fun h3 hs3 => ?_)
    rw [jvu_jvu] at hs3
    have e : ∀ x, x ≠ 2 → jvu S 2 ((c + 1 : Nat) : Int) x = S x := fun x hx => jvu_ne _ _ _ hx
    refine mj_T.ret rfl rfl rfl ⟨_, _, h3, hs3, ⟨k1, ?_, fun k hk => ?_, by rw [e 9 (by decide)]; exact k4, by rw [e 12 (by decide)]; exact k5, by rw [e 15 (by decide)]; exact k6, fun x => ?_, by rw [e 13 (by decide)]; exact k8, k9⟩, e 3 (by decide), rfl⟩
    · rw [jvu_at]
      omega
    · rw [jvu_at] at hk
      by_cases q : k = c
      · subst q
        refine gN_congr (N := N) (fun j hj => ?_) k1
        show va_cpy N B1 0 (k * 91) 91 (k * 91 + j) = N j
        unfold va_cpy
        rw [if_pos (by omega), show 0 + (k * 91 + j - k * 91) = j by omega]
      · refine gN_congr (fun j hj => ?_) (g1 k (by omega))
        show va_cpy N B1 0 (c * 91) 91 (k * 91 + j) = B1 (k * 91 + j)
        unfold va_cpy
        rw [if_neg (by omega)]
    · by_cases q : x = 2
      · subst q
        rw [jvu_at]
        exact ⟨by omega, by omega⟩
      · rw [e x q]
        exact k7 x
  refine mj_Ok.of (M := mj_m227) rfl rfl rfl ?_
  refine mj_T.pl rfl rfl rfl rfl ?_
  refine rT_get hs rfl rfl ?_
  refine mj_T.pl rfl rfl rfl rfl ?_
  refine mj_T.icmp (a := S 2) (b := 8) rfl (k7 2) ⟨by decide, by decide⟩ (fun hc => ?_) (fun hc => ?_)
  · simp only [jc, Bool.not_eq_true', decide_eq_false_iff_not] at hc
    obtain ⟨c, hc2⟩ := Int.eq_ofNat_of_zero_le k2.1
    have hc3 : S 2 = ((c : Nat) : Int) := hc2
    have es : jvu S 2 ((c : Nat) : Int) = S := funext fun x => by
      unfold jvu
      split
      · rename_i q
        rw [q, hc3]
      · rfl
    exact fin c B h (by omega) (by rw [es]; exact hs) (fun k hk => k3 k (by omega))
  · simp only [jc, Bool.not_eq_false', decide_eq_true_eq] at hc
    refine mj_T.pl rfl rfl rfl rfl ?_
    refine rT_get hs rfl rfl ?_
    iterate 2 refine mj_T.pl rfl rfl rfl rfl ?_
    refine rT_get hs rfl rfl ?_
    iterate 2 refine mj_T.pl rfl rfl rfl rfl ?_
    refine rT_cpy (s := 91) (d := 0) (m := 637) (f := B) (g := B) rfl rfl (rS_B hs) (rS_B hs) (by decide) (by decide) ⟨by decide, by decide, by decide⟩ (Nat.le_of_ble_eq_true rfl) ?_
    have hs2 := rS_setB (va_cpy B B 91 0 637) hs
    generalize h.set 2 _ = h2 at hs2
    iterate 2 refine mj_T.pl rfl rfl rfl rfl ?_
    refine rT_get hs2 rfl rfl ?_
    refine mj_T.pl rfl rfl rfl rfl ?_
    refine mj_T.isub (a := S 2) (b := 1) rfl ?_
    rw [hc, show (8 : Int) - 1 = ((7 : Nat) : Int) by decide]
    refine rT_put (v := ((7 : Nat) : Int)) hs2 rfl rfl (by decide) rfl (fun h3 hs3 => ?_)
    refine fin 7 _ h3 (by decide) hs3 (fun k hk => ?_)
    refine gN_congr (fun j hj => ?_) (k3 (k + 1) (by omega))
    show va_cpy B B 91 0 637 (k * 91 + j) = B ((k + 1) * 91 + j)
    unfold va_cpy
    rw [if_pos (by omega), show 91 + (k * 91 + j - 0) = (k + 1) * 91 + j by omega]
theorem gN_row {N : Nat → Int} {r p : Nat} {V : Nat → Int} (g : gN N) (hr : r ≤ 5) (hV : ∀ e, e < 13 → -999999999999999999 ≤ V (p * 13 + e) ∧ V (p * 13 + e) ≤ 999999999999999999) : gN (jfl N r (fun e => V (p * 13 + e)) 13) := by
  obtain ⟨g1, g2, g3, g4⟩ := g
  have e : ∀ j, 78 ≤ j → jfl N r (fun e => V (p * 13 + e)) 13 j = N j := fun j hj => jfl_off _ r _ (by omega)
  refine ⟨fun j hj => ?_, by rw [e 78 (by decide)]; exact g2, fun k hk => by rw [e _ (by omega), e _ (by omega)]; exact g3 k hk, fun i j hij hj => ?_⟩
  · by_cases q : r * 13 ≤ j ∧ j < r * 13 + 13
    · obtain ⟨x, rfl⟩ : ∃ x, j = r * 13 + x := ⟨j - r * 13, by omega⟩
      rw [jfl_at _ r _ (by omega)]
      exact hV x (by omega)
    · rw [jfl_off _ r _ (by omega)]
      exact g1 j hj
  · rw [e 78 (by decide)] at hj
    rw [e _ (by omega), e _ (by omega)]
    exact g4 i j hij hj
theorem jK.row {N' : Nat → Int} (K : jK tm er S N B T) (g : gN N') : jK tm er S N' B T := by
  obtain ⟨k1, k2, k3, k4, k5, k6, k7, k8, k9⟩ := K
  exact ⟨g, k2, k3, k4, k5, k6, k7, k8, k9⟩
theorem rp_puts {r p : Nat} {c : Int} (hr : r ≤ 5) (hp : p ≤ 50) (hc : jr c) (K : jK tm er S N B T) (hs : rS S N B T X V h) : mj_Ok (D + 5) 229 [.ref 0, .int (jn (r : Nat)), .int (jn (p : Nat)), .int (jn c)] h (rI tm er T) := by
  have hd := jdg_le V p 13
  refine mj_Ok.of (M := mj_m229) rfl rfl rfl ?_
  iterate 2 refine mj_T.pl rfl rfl rfl rfl ?_
  refine mj_T.call (ins := .invokevirtual 195) rfl rfl (Nat.le_of_ble_eq_true rfl) (Nat.le_of_ble_eq_true rfl) (by simp [mj_recv, rS_f hs]) rfl (jp_isInBounds (D := D + 2) (rG S N B T X) (p := p) hp (fun e he => jS_700 hs (by omega)) hs) (fun v' h' hq' => ?_) (fun i h' hq' => by cases hq')
  cases hq'
  have hb := jib_le V p 13
  refine mj_T.if0 (a := ((jib V p 13 : Nat) : Int)) rfl ⟨by omega, by omega⟩ (fun hc1 => ?_) (fun hc1 => ?_)
  · simp only [jc, Bool.not_eq_true', decide_eq_false_iff_not] at hc1
    have h2 := jib_one (V := V) (p := p) 13 (by omega)
    have h3 : ∀ e, e < 13 → -999999999999999999 ≤ V (p * 13 + e) ∧ V (p * 13 + e) ≤ 999999999999999999 := fun e he => by
      have k1 := jnl_le_lt.mp (h2 e he)
      rw [show jB ^ 2 = 1000000000000000000 from rfl] at k1
      omega
    refine mj_T.pl rfl rfl rfl rfl ?_
    refine mj_T.call (ins := .invokevirtual 201) rfl rfl (Nat.le_of_ble_eq_true rfl) (Nat.le_of_ble_eq_true rfl) (by simp [mj_recv, rS_f hs]) rfl (rp_keeps (D := D + 3) K hs) (fun v' h1 hq' => ?_) (fun i h' hq' => by obtain ⟨_, _, _, _, _, _, h⟩ := hq'; cases h)
    obtain ⟨S', B', _, hs1, K1, k1, hq'⟩ := hq'
    cases hq'
    iterate 3 refine mj_T.pl rfl rfl rfl rfl ?_
    refine mj_T.call (ins := .invokevirtual 204) rfl rfl (Nat.le_of_ble_eq_true rfl) (Nat.le_of_ble_eq_true rfl) (by simp [mj_recv, rS_f hs1]) rfl (rp_stores (D := D) (p := p) (r := r) hp hr hs1) (fun v' h2 hq' => ?_) (fun i h' hq' => by obtain ⟨_, _, h⟩ := hq'; cases h)
    obtain ⟨_, hs2, hq'⟩ := hq'
    cases hq'
    iterate 2 refine mj_T.pl rfl rfl rfl rfl ?_
    refine mj_T.call (ins := .invokevirtual 114) rfl rfl (Nat.le_of_ble_eq_true rfl) (Nat.le_of_ble_eq_true rfl) (by simp [mj_recv, rS_f hs2]) rfl (jp_degreeOf (D := D + 2) (rG S' (jfl N r (fun e => V (p * 13 + e)) 13) B' T X) (p := p) hp hs2) (fun v' h' hq' => ?_) (fun i h' hq' => by cases hq')
    cases hq'
    exact mj_T.ret rfl rfl rfl ⟨_, h2, ⟨by omega, by omega⟩, rfl, ⟨S', _, B', X, V, hs2, K1.row (gN_row K.1 hr h3)⟩⟩
  iterate 2 refine mj_T.pl rfl rfl rfl rfl ?_
  refine mj_T.call (ins := .invokevirtual 198) rfl rfl (Nat.le_of_ble_eq_true rfl) (Nat.le_of_ble_eq_true rfl) (by simp [mj_recv, rS_f hs]) rfl (rp_fails (D := D + 3) (c := c) hs) (fun v' h1 hq' => ?_) (fun i h' hq' => by obtain ⟨_, _, h⟩ := hq'; cases h)
  obtain ⟨_, hs1, hq'⟩ := hq'
  cases hq'
  exact mj_T.ret rfl rfl rfl ⟨0, h1, ⟨by decide, by decide⟩, rfl, ⟨_, N, B, X, V, hs1, K.put hc (by decide) (by decide) (by decide) (by decide) (by decide)⟩⟩
theorem rp_tellsWhole {s : Nat} (hl : s < 665) (hs : rS S N B T X V h) : mj_Ok (D + 3) 222 [.ref 0, .int (jn (s : Nat))] h (fun r => ∃ (W : Nat → Int) (z : Int) (h' : mj_H), rS S N B T X W h' ∧ jr z ∧ r = (.inl (some (.int (jn z))), h')) := by
  refine mj_Ok.of (M := mj_m222) rfl rfl rfl ?_
  iterate 3 refine mj_T.pl rfl rfl rfl rfl ?_
  refine mj_T.call (ins := .invokevirtual 84) rfl rfl (Nat.le_of_ble_eq_true rfl) (Nat.le_of_ble_eq_true rfl) (by simp [mj_recv, rS_f hs]) rfl (jS_copies (D := D) (rG S N B T X) (to := 650) (s := s) (by decide) hl hs) (fun v' h1 hq' => ?_) (fun i h' hq' => by obtain ⟨_, _, h⟩ := hq'; cases h)
  obtain ⟨_, hs1, hq'⟩ := hq'
  cases hq'
  iterate 3 refine mj_T.pl rfl rfl rfl rfl ?_
  refine mj_T.call (ins := .invokevirtual 45) rfl rfl (Nat.le_of_ble_eq_true rfl) (Nat.le_of_ble_eq_true rfl) (by simp [mj_recv, rS_f hs1]) rfl (jS_sets (D := D + 1) (rG S N B T X) (s := 651) (v := 1) (by decide) ⟨by decide, by decide⟩ hs1) (fun v' h2 hq' => ?_) (fun i h' hq' => by obtain ⟨_, _, h⟩ := hq'; cases h)
  obtain ⟨_, hs2, hq'⟩ := hq'
  cases hq'
  iterate 2 refine mj_T.pl rfl rfl rfl rfl ?_
  refine mj_T.call (ins := .invokevirtual 68) rfl rfl (Nat.le_of_ble_eq_true rfl) (Nat.le_of_ble_eq_true rfl) (by simp [mj_recv, rS_f hs2]) rfl (jS_sign (D := D + 1) (rG S N B T X) (s := 650) (by decide) hs2) (fun v' h' hq' => ?_) (fun i h' hq' => by cases hq')
  cases hq'
  have hr := jsg_range (jvu (jvu V 650 (V s)) 651 1 650)
  exact mj_T.ret rfl rfl rfl ⟨_, _, h2, hs2, ⟨by omega, by omega⟩, rfl⟩
end RKP
/-! Calls of the reference: sums, products, powers, derivatives. -/
section RPU
variable {h : mj_H} {tm er : Int} {T : Nat → Int}
theorem jR_of_short {x : Int} (h : -999999999999999999 ≤ x ∧ x ≤ 999999999999999999) : x.natAbs ≤ 10 ^ 18 := by
  omega
theorem rp_small : 10 ^ 18 + 10 ^ 18 < jB ^ 698 := by decide +kernel
theorem rp_small2 : 169 * (10 ^ 18 * 10 ^ 18) < jB ^ 698 := by decide +kernel
theorem rp_small3 : (169 * 10 ^ 18) ^ 12 < jB ^ 698 := by decide +kernel
theorem jK.sh {tm er : Int} {S N B T : Nat → Int} (K : jK tm er S N B T) {r e : Nat} (hr : r ≤ 5) (he : e < 13) : (N (r * 13 + e)).natAbs ≤ 10 ^ 18 := jR_of_short (K.1.1 _ (by omega))
theorem rp_sums {x y z : Int} (hx : jr x) (hy : jr y) (hz : jr z) {f : Int} (hf : f = 1 ∨ f = -1) (hI : jI tm er T h) : mj_Ok 40 232 [.ref 0, .int (jn x), .int (jn y), .int (jn z), .int (jn f)] h (rI tm er T) := by
  refine mj_Ok.of (M := mj_m232) rfl rfl rfl ?_
  obtain ⟨S, N, B, X, V, hs, K⟩ := hI
  iterate 2 refine mj_T.pl rfl rfl rfl rfl ?_
  refine rT_put (v := 0) hs rfl rfl (by decide) rfl (fun g1 hs1 => ?_)
  have K1 := K.put (k := 3) (v := 0) ⟨by decide, by decide⟩ (by decide) (by decide) (by decide) (by decide) (by decide)
  generalize jvu S 3 0 = S1 at hs1 K1
  iterate 3 refine mj_T.pl rfl rfl rfl rfl ?_
  refine mj_T.call (ins := .invokestatic 210) rfl rfl (Nat.le_of_ble_eq_true rfl) (Nat.le_of_ble_eq_true rfl) rfl rfl (mj_Ok.up (by decide) (rp_areRegisters (D := 0) hx hy hz)) (fun v' h' hq' => ?_) (fun i h' hq' => by rcases hq' with ⟨_, _, h⟩ | ⟨_, h⟩ <;> cases h)
  rcases hq' with ⟨⟨x1, x2⟩, ⟨y3, y4, z5, z6⟩, hq'⟩ | ⟨_, hq'⟩
  case' inr =>
    cases hq'
    refine mj_T.if0 (a := 0) rfl ⟨by decide, by decide⟩ (fun hc => ?_) (fun hc => ?_)
    · simp [jc] at hc
    iterate 2 refine mj_T.pl rfl rfl rfl rfl ?_
    refine mj_T.call (ins := .invokevirtual 198) rfl rfl (Nat.le_of_ble_eq_true rfl) (Nat.le_of_ble_eq_true rfl) (by simp [mj_recv, rS_f hs1]) rfl (mj_Ok.up (by decide) (rp_fails (D := 0) (c := 1) hs1)) (fun v' g2 hq' => ?_) (fun i h' hq' => by obtain ⟨_, _, h⟩ := hq'; cases h)
    obtain ⟨_, hs2, hq'⟩ := hq'
    cases hq'
    exact mj_T.ret rfl rfl rfl ⟨0, g2, ⟨by decide, by decide⟩, rfl, ⟨_, N, B, X, V, hs2, K1.put ⟨by decide, by decide⟩ (by decide) (by decide) (by decide) (by decide) (by decide)⟩⟩
  cases hq'
  refine mj_T.if0 (a := 1) rfl ⟨by decide, by decide⟩ (fun hc => ?_) (fun hc => ?_)
  rotate_left
  · simp [jc] at hc
  obtain ⟨x, rfl⟩ := Int.eq_ofNat_of_zero_le x1
  obtain ⟨y, rfl⟩ := Int.eq_ofNat_of_zero_le y3
  obtain ⟨z, rfl⟩ := Int.eq_ofNat_of_zero_le z5
  iterate 3 refine mj_T.pl rfl rfl rfl rfl ?_
  refine mj_T.call (ins := .invokevirtual 213) rfl rfl (Nat.le_of_ble_eq_true rfl) (Nat.le_of_ble_eq_true rfl) (by simp [mj_recv, rS_f hs1]) rfl (mj_Ok.up (by decide) (rp_loads (D := 0) (p := 0) (r := y) (by decide) (by omega) K1.nR hs1)) (fun v' g3 hq' => ?_) (fun i h' hq' => by obtain ⟨_, _, h⟩ := hq'; cases h)
  obtain ⟨_, hs3, hq'⟩ := hq'
  cases hq'
  have a3 : ∀ e, e < 13 → jfl V 0 (fun e => N (y * 13 + e)) 13 (0 * 13 + e) = N (y * 13 + e) := fun e he => jfl_at _ _ _ he
  have b3 : ∀ s, (s < 0 * 13 ∨ 0 * 13 + 13 ≤ s) → jfl V 0 (fun e => N (y * 13 + e)) 13 s = V s := fun s hc => jfl_off _ _ _ hc
  generalize jfl V 0 (fun e => N (y * 13 + e)) 13 = W3 at hs3 a3 b3
  iterate 3 refine mj_T.pl rfl rfl rfl rfl ?_
  refine mj_T.call (ins := .invokevirtual 213) rfl rfl (Nat.le_of_ble_eq_true rfl) (Nat.le_of_ble_eq_true rfl) (by simp [mj_recv, rS_f hs3]) rfl (mj_Ok.up (by decide) (rp_loads (D := 0) (p := 1) (r := z) (by decide) (by omega) K1.nR hs3)) (fun v' g4 hq' => ?_) (fun i h' hq' => by obtain ⟨_, _, h⟩ := hq'; cases h)
  obtain ⟨_, hs4, hq'⟩ := hq'
  cases hq'
  have a4 : ∀ e, e < 13 → jfl W3 1 (fun e => N (z * 13 + e)) 13 (1 * 13 + e) = N (z * 13 + e) := fun e he => jfl_at _ _ _ he
  have b4 : ∀ s, (s < 1 * 13 ∨ 1 * 13 + 13 ≤ s) → jfl W3 1 (fun e => N (z * 13 + e)) 13 s = W3 s := fun s hc => jfl_off _ _ _ hc
  generalize jfl W3 1 (fun e => N (z * 13 + e)) 13 = W4 at hs4 a4 b4
  have c0 : ∀ e, e < 13 → (W4 (0 * 13 + e) + f * W4 (1 * 13 + e)).natAbs ≤ 10 ^ 18 + 10 ^ 18 := fun e he => by
    rw [a4 e he, b4 _ (by omega), a3 e he]
    have h1 := K1.sh (r := y) (e := e) (by omega) he
    have h2 := K1.sh (r := z) (e := e) (by omega) he
    rcases hf with q | q <;> subst q <;> omega
  iterate 5 refine mj_T.pl rfl rfl rfl rfl ?_
  refine mj_T.call (ins := .invokevirtual 216) rfl rfl (Nat.le_of_ble_eq_true rfl) (Nat.le_of_ble_eq_true rfl) (by simp [mj_recv, rS_f hs4]) rfl (mj_Ok.up (by decide) (jp_addsPoly (D := 0) (rG S1 N B T X) (p := 0) (a := 0) (b := 1) (f := f) (by decide) (by decide) (by decide) hf (fun e he => jnl_of_lt (c0 e he) rp_small) hs4)) (fun v' g5 hq' => ?_) (fun i h' hq' => by obtain ⟨_, _, h⟩ := hq'; cases h)
  obtain ⟨_, hs5, hq'⟩ := hq'
  cases hq'
  iterate 4 refine mj_T.pl rfl rfl rfl rfl ?_
  refine mj_T.call (ins := .invokevirtual 219) rfl rfl (Nat.le_of_ble_eq_true rfl) (Nat.le_of_ble_eq_true rfl) (by simp [mj_recv, rS_f hs5]) rfl (mj_Ok.up (by decide) (rp_puts (D := 0) (r := x) (p := 0) (c := 2) (by omega) (by decide) ⟨by decide, by decide⟩ K1 hs5)) (fun v' h' hq' => ?_) (fun i h' hq' => by obtain ⟨_, _, _, h, _⟩ := hq'; cases h)
  obtain ⟨z9, h9, hz9, e9, hI9⟩ := hq'
  cases e9
  exact mj_T.ret rfl rfl rfl ⟨z9, _, hz9, rfl, hI9⟩
theorem rp_add {x y z : Int} (hx : jr x) (hy : jr y) (hz : jr z) (hI : jI tm er T h) : mj_Ok 41 230 [.ref 0, .int (jn x), .int (jn y), .int (jn z)] h (rI tm er T) := by
  refine mj_Ok.of (M := mj_m230) rfl rfl rfl ?_
  have hI0 := hI
  obtain ⟨S, N, B, X, V, hs, K⟩ := hI0
  iterate 5 refine mj_T.pl rfl rfl rfl rfl ?_
  refine mj_T.call (ins := .invokevirtual 207) rfl rfl (Nat.le_of_ble_eq_true rfl) (Nat.le_of_ble_eq_true rfl) (by simp [mj_recv, rS_f hs]) rfl (rp_sums (f := 1) hx hy hz (Or.inl rfl) hI) (fun v' h9 hq' => ?_) (fun i h' hq' => by obtain ⟨_, _, _, h, _⟩ := hq'; cases h)
  obtain ⟨z9, h9, hz9, e9, hI9⟩ := hq'
  cases e9
  exact mj_T.ret rfl rfl rfl ⟨z9, _, hz9, rfl, hI9⟩
theorem rp_subtract {x y z : Int} (hx : jr x) (hy : jr y) (hz : jr z) (hI : jI tm er T h) : mj_Ok 41 231 [.ref 0, .int (jn x), .int (jn y), .int (jn z)] h (rI tm er T) := by
  refine mj_Ok.of (M := mj_m231) rfl rfl rfl ?_
  have hI0 := hI
  obtain ⟨S, N, B, X, V, hs, K⟩ := hI0
  iterate 5 refine mj_T.pl rfl rfl rfl rfl ?_
  refine mj_T.call (ins := .invokevirtual 207) rfl rfl (Nat.le_of_ble_eq_true rfl) (Nat.le_of_ble_eq_true rfl) (by simp [mj_recv, rS_f hs]) rfl (rp_sums (f := -1) hx hy hz (Or.inr rfl) hI) (fun v' h9 hq' => ?_) (fun i h' hq' => by obtain ⟨_, _, _, h, _⟩ := hq'; cases h)
  obtain ⟨z9, h9, hz9, e9, hI9⟩ := hq'
  cases e9
  exact mj_T.ret rfl rfl rfl ⟨z9, _, hz9, rfl, hI9⟩
end RPU
/-! Calls of the reference: products, powers, derivatives, quotients, primitive and simple parts. -/
theorem jpo_ne_of {V : Nat → Int} {p : Nat} (h : 1 ≤ jdg V p 13) : jpo V p ≠ pz_0 := fun e => by
  have h1 := jdg_ne V p 13 h
  have h2 := jdg_le V p 13
  have h3 := congrFun e (jdg V p 13 - 1)
  rw [jpo_at (by omega)] at h3
  exact h1 h3
theorem jib_short {V : Nat → Int} {p : Nat} (h : jib V p 13 = 1) : ∀ e, e < 13 → -999999999999999999 ≤ V (p * 13 + e) ∧ V (p * 13 + e) ≤ 999999999999999999 := fun e he => by
  have k1 := jnl_le_lt.mp (jib_one 13 h e he)
  rw [show jB ^ 2 = 1000000000000000000 from rfl] at k1
  omega
theorem rp_small4 : 10 ^ 18 * (2 * 10 ^ 18) ^ 13 < jB ^ 698 := by decide +kernel
section RPU
variable {h : mj_H} {tm er : Int} {T : Nat → Int}
theorem rp_multiply {x y z : Int} (hx : jr x) (hy : jr y) (hz : jr z) (hI : jI tm er T h) : mj_Ok 40 233 [.ref 0, .int (jn x), .int (jn y), .int (jn z)] h (rI tm er T) := by
  refine mj_Ok.of (M := mj_m233) rfl rfl rfl ?_
  obtain ⟨S, N, B, X, V, hs, K⟩ := hI
  iterate 2 refine mj_T.pl rfl rfl rfl rfl ?_
  refine rT_put (v := 0) hs rfl rfl (by decide) rfl (fun g1 hs1 => ?_)
  have K1 := K.put (k := 3) (v := 0) ⟨by decide, by decide⟩ (by decide) (by decide) (by decide) (by decide) (by decide)
  generalize jvu S 3 0 = S1 at hs1 K1
  iterate 3 refine mj_T.pl rfl rfl rfl rfl ?_
  refine mj_T.call (ins := .invokestatic 210) rfl rfl (Nat.le_of_ble_eq_true rfl) (Nat.le_of_ble_eq_true rfl) rfl rfl (mj_Ok.up (by decide) (rp_areRegisters (D := 0) hx hy hz)) (fun v' h' hq' => ?_) (fun i h' hq' => by rcases hq' with ⟨_, _, h⟩ | ⟨_, h⟩ <;> cases h)
  rcases hq' with ⟨⟨x1, x2⟩, ⟨y3, y4, z5, z6⟩, hq'⟩ | ⟨_, hq'⟩
  case' inr =>
    cases hq'
    refine mj_T.if0 (a := 0) rfl ⟨by decide, by decide⟩ (fun hc => ?_) (fun hc => ?_)
    · simp [jc] at hc
    iterate 2 refine mj_T.pl rfl rfl rfl rfl ?_
    refine mj_T.call (ins := .invokevirtual 198) rfl rfl (Nat.le_of_ble_eq_true rfl) (Nat.le_of_ble_eq_true rfl) (by simp [mj_recv, rS_f hs1]) rfl (mj_Ok.up (by decide) (rp_fails (D := 0) (c := 1) hs1)) (fun v' g2 hq' => ?_) (fun i h' hq' => by obtain ⟨_, _, h⟩ := hq'; cases h)
    obtain ⟨_, hs2, hq'⟩ := hq'
    cases hq'
    exact mj_T.ret rfl rfl rfl ⟨0, g2, ⟨by decide, by decide⟩, rfl, ⟨_, N, B, X, V, hs2, K1.put ⟨by decide, by decide⟩ (by decide) (by decide) (by decide) (by decide) (by decide)⟩⟩
  cases hq'
  refine mj_T.if0 (a := 1) rfl ⟨by decide, by decide⟩ (fun hc => ?_) (fun hc => ?_)
  rotate_left
  · simp [jc] at hc
  obtain ⟨x, rfl⟩ := Int.eq_ofNat_of_zero_le x1
  obtain ⟨y, rfl⟩ := Int.eq_ofNat_of_zero_le y3
  obtain ⟨z, rfl⟩ := Int.eq_ofNat_of_zero_le z5
  iterate 3 refine mj_T.pl rfl rfl rfl rfl ?_
  refine mj_T.call (ins := .invokevirtual 213) rfl rfl (Nat.le_of_ble_eq_true rfl) (Nat.le_of_ble_eq_true rfl) (by simp [mj_recv, rS_f hs1]) rfl (mj_Ok.up (by decide) (rp_loads (D := 0) (p := 0) (r := y) (by decide) (by omega) K1.nR hs1)) (fun v' g3 hq' => ?_) (fun i h' hq' => by obtain ⟨_, _, h⟩ := hq'; cases h)
  obtain ⟨_, hs3, hq'⟩ := hq'
  cases hq'
  have a3 : ∀ e, e < 13 → jfl V 0 (fun e => N (y * 13 + e)) 13 (0 * 13 + e) = N (y * 13 + e) := fun e he => jfl_at _ _ _ he
  have b3 : ∀ s, (s < 0 * 13 ∨ 0 * 13 + 13 ≤ s) → jfl V 0 (fun e => N (y * 13 + e)) 13 s = V s := fun s hc => jfl_off _ _ _ hc
  generalize jfl V 0 (fun e => N (y * 13 + e)) 13 = W3 at hs3 a3 b3
  iterate 3 refine mj_T.pl rfl rfl rfl rfl ?_
  refine mj_T.call (ins := .invokevirtual 213) rfl rfl (Nat.le_of_ble_eq_true rfl) (Nat.le_of_ble_eq_true rfl) (by simp [mj_recv, rS_f hs3]) rfl (mj_Ok.up (by decide) (rp_loads (D := 0) (p := 1) (r := z) (by decide) (by omega) K1.nR hs3)) (fun v' g4 hq' => ?_) (fun i h' hq' => by obtain ⟨_, _, h⟩ := hq'; cases h)
  obtain ⟨_, hs4, hq'⟩ := hq'
  cases hq'
  have a4 : ∀ e, e < 13 → jfl W3 1 (fun e => N (z * 13 + e)) 13 (1 * 13 + e) = N (z * 13 + e) := fun e he => jfl_at _ _ _ he
  have b4 : ∀ s, (s < 1 * 13 ∨ 1 * 13 + 13 ≤ s) → jfl W3 1 (fun e => N (z * 13 + e)) 13 s = W3 s := fun s hc => jfl_off _ _ _ hc
  generalize jfl W3 1 (fun e => N (z * 13 + e)) 13 = W4 at hs4 a4 b4
  have c1 : ∀ e, e < 13 → (W4 (0 * 13 + e)).natAbs ≤ 10 ^ 18 := fun e he => by
    rw [b4 _ (by omega), a3 e he]
    exact K1.sh (r := y) (by omega) he
  have c2 : ∀ e, e < 13 → (W4 (1 * 13 + e)).natAbs ≤ 10 ^ 18 := fun e he => by
    rw [a4 e he]
    exact K1.sh (r := z) (by omega) he
  iterate 3 refine mj_T.pl rfl rfl rfl rfl ?_
  refine mj_T.call (ins := .invokevirtual 223) rfl rfl (Nat.le_of_ble_eq_true rfl) (Nat.le_of_ble_eq_true rfl) (by simp [mj_recv, rS_f hs4]) rfl (mj_Ok.up (by decide) (jp_isTooHigh (D := 0) (rG S1 N B T X) (a := 0) (b := 1) (by decide) (by decide) hs4)) (fun v' h' hq' => ?_) (fun i h' hq' => by rcases hq' with ⟨_, _, _, h⟩ | ⟨_, h⟩ <;> cases h)
  rcases hq' with ⟨_, _, _, hq'⟩ | ⟨hdeg, hq'⟩
  case' inl =>
    cases hq'
    refine mj_T.if0 (a := 1) rfl ⟨by decide, by decide⟩ (fun hc => ?_) (fun hc => ?_)
    · simp [jc] at hc
    iterate 2 refine mj_T.pl rfl rfl rfl rfl ?_
    refine mj_T.call (ins := .invokevirtual 198) rfl rfl (Nat.le_of_ble_eq_true rfl) (Nat.le_of_ble_eq_true rfl) (by simp [mj_recv, rS_f hs4]) rfl (mj_Ok.up (by decide) (rp_fails (D := 0) (c := 2) hs4)) (fun v' g5 hq' => ?_) (fun i h' hq' => by obtain ⟨_, _, h⟩ := hq'; cases h)
    obtain ⟨_, hs5, hq'⟩ := hq'
    cases hq'
    exact mj_T.ret rfl rfl rfl ⟨0, g5, ⟨by decide, by decide⟩, rfl, ⟨_, N, B, X, W4, hs5, K1.put ⟨by decide, by decide⟩ (by decide) (by decide) (by decide) (by decide) (by decide)⟩⟩
  cases hq'
  refine mj_T.if0 (a := 0) rfl ⟨by decide, by decide⟩ (fun hc => ?_) (fun hc => ?_)
  rotate_left
  · simp [jc] at hc
  iterate 4 refine mj_T.pl rfl rfl rfl rfl ?_
  refine mj_T.call (ins := .invokevirtual 121) rfl rfl (Nat.le_of_ble_eq_true rfl) (Nat.le_of_ble_eq_true rfl) (by simp [mj_recv, rS_f hs4]) rfl (mj_Ok.up (by decide) (jp_multipliesPoly (D := 0) (rG S1 N B T X) (to := 2) (a := 0) (b := 1) (by decide) (by decide) (by decide) (by decide) (by decide) c1 c2 hdeg rp_small2 hs4)) (fun v' g6 hq' => ?_) (fun i h' hq' => by obtain ⟨_, _, _, _, _, _, h⟩ := hq'; cases h)
  obtain ⟨W6, _, hs6, _, _, _, hq'⟩ := hq'
  cases hq'
  iterate 4 refine mj_T.pl rfl rfl rfl rfl ?_
  refine mj_T.call (ins := .invokevirtual 219) rfl rfl (Nat.le_of_ble_eq_true rfl) (Nat.le_of_ble_eq_true rfl) (by simp [mj_recv, rS_f hs6]) rfl (mj_Ok.up (by decide) (rp_puts (D := 0) (r := x) (p := 2) (c := 2) (by omega) (by decide) ⟨by decide, by decide⟩ K1 hs6)) (fun v' h' hq' => ?_) (fun i h' hq' => by obtain ⟨_, _, _, h, _⟩ := hq'; cases h)
  obtain ⟨z9, h9, hz9, e9, hI9⟩ := hq'
  cases e9
  exact mj_T.ret rfl rfl rfl ⟨z9, _, hz9, rfl, hI9⟩
theorem rp_power {x y z : Int} (hx : jr x) (hy : jr y) (hz : jr z) (hI : jI tm er T h) : mj_Ok 40 234 [.ref 0, .int (jn x), .int (jn y), .int (jn z)] h (rI tm er T) := by
  refine mj_Ok.of (M := mj_m234) rfl rfl rfl ?_
  obtain ⟨S, N, B, X, V, hs, K⟩ := hI
  iterate 2 refine mj_T.pl rfl rfl rfl rfl ?_
  refine rT_put (v := 0) hs rfl rfl (by decide) rfl (fun g7 hs7 => ?_)
  have K7 := K.put (k := 3) (v := 0) ⟨by decide, by decide⟩ (by decide) (by decide) (by decide) (by decide) (by decide)
  generalize jvu S 3 0 = S7 at hs7 K7
  iterate 3 refine mj_T.pl rfl rfl rfl rfl ?_
  refine mj_T.call (ins := .invokestatic 210) rfl rfl (Nat.le_of_ble_eq_true rfl) (Nat.le_of_ble_eq_true rfl) rfl rfl (mj_Ok.up (by decide) (rp_areRegisters (D := 0) hx hy hy)) (fun v' h' hq' => ?_) (fun i h' hq' => by rcases hq' with ⟨_, _, h⟩ | ⟨_, h⟩ <;> cases h)
  rcases hq' with ⟨⟨x1, x2⟩, ⟨y3, y4, y5, y6⟩, hq'⟩ | ⟨_, hq'⟩
  case' inr =>
    cases hq'
    refine mj_T.if0 (a := 0) rfl ⟨by decide, by decide⟩ (fun hc => ?_) (fun hc => ?_)
    · simp [jc] at hc
    iterate 2 refine mj_T.pl rfl rfl rfl rfl ?_
    refine mj_T.call (ins := .invokevirtual 198) rfl rfl (Nat.le_of_ble_eq_true rfl) (Nat.le_of_ble_eq_true rfl) (by simp [mj_recv, rS_f hs7]) rfl (mj_Ok.up (by decide) (rp_fails (D := 0) (c := 1) hs7)) (fun v' g8 hq' => ?_) (fun i h' hq' => by obtain ⟨_, _, h⟩ := hq'; cases h)
    obtain ⟨_, hs8, hq'⟩ := hq'
    cases hq'
    exact mj_T.ret rfl rfl rfl ⟨0, g8, ⟨by decide, by decide⟩, rfl, ⟨_, N, B, X, V, hs8, K7.put ⟨by decide, by decide⟩ (by decide) (by decide) (by decide) (by decide) (by decide)⟩⟩
  cases hq'
  refine mj_T.if0 (a := 1) rfl ⟨by decide, by decide⟩ (fun hc => ?_) (fun hc => ?_)
  rotate_left
  · simp [jc] at hc
  obtain ⟨x, rfl⟩ := Int.eq_ofNat_of_zero_le x1
  obtain ⟨y, rfl⟩ := Int.eq_ofNat_of_zero_le y3
  refine mj_T.pl rfl rfl rfl rfl ?_
  refine mj_T.i2l rfl hz ?_
  iterate 2 refine mj_T.pl rfl rfl rfl rfl ?_
  refine mj_T.call (ins := .invokestatic 177) rfl rfl (Nat.le_of_ble_eq_true rfl) (Nat.le_of_ble_eq_true rfl) rfl rfl (mj_Ok.up (by decide) (rp_in (D := 0) (v := z) (lo := 0) (hi := 12) ⟨by have := hz.1; omega, by have := hz.2; omega⟩ ⟨by decide, by decide⟩ ⟨by decide, by decide⟩)) (fun v' h' hq' => ?_) (fun i h' hq' => by rcases hq' with ⟨_, _, h⟩ | ⟨_, h⟩ <;> cases h)
  rcases hq' with ⟨r9a, r9b, hq'⟩ | ⟨_, hq'⟩
  case' inr =>
    cases hq'
    refine mj_T.if0 (a := 0) rfl ⟨by decide, by decide⟩ (fun hc => ?_) (fun hc => ?_)
    · simp [jc] at hc
    iterate 2 refine mj_T.pl rfl rfl rfl rfl ?_
    refine mj_T.call (ins := .invokevirtual 198) rfl rfl (Nat.le_of_ble_eq_true rfl) (Nat.le_of_ble_eq_true rfl) (by simp [mj_recv, rS_f hs7]) rfl (mj_Ok.up (by decide) (rp_fails (D := 0) (c := 2) hs7)) (fun v' g10 hq' => ?_) (fun i h' hq' => by obtain ⟨_, _, h⟩ := hq'; cases h)
    obtain ⟨_, hs10, hq'⟩ := hq'
    cases hq'
    exact mj_T.ret rfl rfl rfl ⟨0, g10, ⟨by decide, by decide⟩, rfl, ⟨_, N, B, X, V, hs10, K7.put ⟨by decide, by decide⟩ (by decide) (by decide) (by decide) (by decide) (by decide)⟩⟩
  cases hq'
  refine mj_T.if0 (a := 1) rfl ⟨by decide, by decide⟩ (fun hc => ?_) (fun hc => ?_)
  rotate_left
  · simp [jc] at hc
  obtain ⟨z, rfl⟩ := Int.eq_ofNat_of_zero_le r9a
  iterate 3 refine mj_T.pl rfl rfl rfl rfl ?_
  refine mj_T.call (ins := .invokevirtual 213) rfl rfl (Nat.le_of_ble_eq_true rfl) (Nat.le_of_ble_eq_true rfl) (by simp [mj_recv, rS_f hs7]) rfl (mj_Ok.up (by decide) (rp_loads (D := 0) (p := 0) (r := y) (by decide) (by omega) K7.nR hs7)) (fun v' g11 hq' => ?_) (fun i h' hq' => by obtain ⟨_, _, h⟩ := hq'; cases h)
  obtain ⟨_, hs11, hq'⟩ := hq'
  cases hq'
  have a11 : ∀ e, e < 13 → jfl V 0 (fun e => N (y * 13 + e)) 13 (0 * 13 + e) = N (y * 13 + e) := fun e he => jfl_at _ _ _ he
  have b11 : ∀ s, (s < 0 * 13 ∨ 0 * 13 + 13 ≤ s) → jfl V 0 (fun e => N (y * 13 + e)) 13 s = V s := fun s hc => jfl_off _ _ _ hc
  generalize jfl V 0 (fun e => N (y * 13 + e)) 13 = W11 at hs11 a11 b11
  have c1 : ∀ e, e < 13 → (W11 (0 * 13 + e)).natAbs ≤ 10 ^ 18 := fun e he => by
    rw [a11 e he]
    exact K7.sh (r := y) (by omega) he
  iterate 4 refine mj_T.pl rfl rfl rfl rfl ?_
  refine mj_T.call (ins := .invokevirtual 229) rfl rfl (Nat.le_of_ble_eq_true rfl) (Nat.le_of_ble_eq_true rfl) (by simp [mj_recv, rS_f hs11]) rfl (mj_Ok.up (by decide) (jp_raises (D := 0) (rG S7 N B T X) (p := 1) (a := 0) (al := 10 ^ 18) (n := z) (by decide) (by decide) (by decide) (by decide) (by decide) (by decide) c1 (by omega) rp_small3 hs11)) (fun v' g12 hq' => ?_) (fun i h' hq' => by obtain ⟨_, _, _, _, ⟨h, _⟩ | ⟨h, _⟩⟩ := hq' <;> cases h)
  obtain ⟨W12, _, hs12, _, ⟨hq', _⟩ | ⟨hq', _⟩⟩ := hq'
  case' inl =>
    cases hq'
    refine mj_T.if0 (a := 0) rfl ⟨by decide, by decide⟩ (fun hc => ?_) (fun hc => ?_)
    rotate_left
    · simp [jc] at hc
    iterate 2 refine mj_T.pl rfl rfl rfl rfl ?_
    refine mj_T.call (ins := .invokevirtual 198) rfl rfl (Nat.le_of_ble_eq_true rfl) (Nat.le_of_ble_eq_true rfl) (by simp [mj_recv, rS_f hs12]) rfl (mj_Ok.up (by decide) (rp_fails (D := 0) (c := 3) hs12)) (fun v' g13 hq' => ?_) (fun i h' hq' => by obtain ⟨_, _, h⟩ := hq'; cases h)
    obtain ⟨_, hs13, hq'⟩ := hq'
    cases hq'
    exact mj_T.ret rfl rfl rfl ⟨0, g13, ⟨by decide, by decide⟩, rfl, ⟨_, N, B, X, W12, hs13, K7.put ⟨by decide, by decide⟩ (by decide) (by decide) (by decide) (by decide) (by decide)⟩⟩
  cases hq'
  refine mj_T.if0 (a := 1) rfl ⟨by decide, by decide⟩ (fun hc => ?_) (fun hc => ?_)
  · simp [jc] at hc
  iterate 4 refine mj_T.pl rfl rfl rfl rfl ?_
  refine mj_T.call (ins := .invokevirtual 219) rfl rfl (Nat.le_of_ble_eq_true rfl) (Nat.le_of_ble_eq_true rfl) (by simp [mj_recv, rS_f hs12]) rfl (mj_Ok.up (by decide) (rp_puts (D := 0) (r := x) (p := 1) (c := 3) (by omega) (by decide) ⟨by decide, by decide⟩ K7 hs12)) (fun v' h' hq' => ?_) (fun i h' hq' => by obtain ⟨_, _, _, h, _⟩ := hq'; cases h)
  obtain ⟨z9, h9, hz9, e9, hI9⟩ := hq'
  cases e9
  refine mj_T.pl rfl rfl rfl rfl ?_
  exact mj_T.ret rfl rfl rfl ⟨z9, _, hz9, rfl, hI9⟩
theorem rp_derive {x y : Int} (hx : jr x) (hy : jr y) (hI : jI tm er T h) : mj_Ok 40 235 [.ref 0, .int (jn x), .int (jn y)] h (rI tm er T) := by
  refine mj_Ok.of (M := mj_m235) rfl rfl rfl ?_
  obtain ⟨S, N, B, X, V, hs, K⟩ := hI
  iterate 2 refine mj_T.pl rfl rfl rfl rfl ?_
  refine rT_put (v := 0) hs rfl rfl (by decide) rfl (fun g14 hs14 => ?_)
  have K14 := K.put (k := 3) (v := 0) ⟨by decide, by decide⟩ (by decide) (by decide) (by decide) (by decide) (by decide)
  generalize jvu S 3 0 = S14 at hs14 K14
  iterate 3 refine mj_T.pl rfl rfl rfl rfl ?_
  refine mj_T.call (ins := .invokestatic 210) rfl rfl (Nat.le_of_ble_eq_true rfl) (Nat.le_of_ble_eq_true rfl) rfl rfl (mj_Ok.up (by decide) (rp_areRegisters (D := 0) hx hy hy)) (fun v' h' hq' => ?_) (fun i h' hq' => by rcases hq' with ⟨_, _, h⟩ | ⟨_, h⟩ <;> cases h)
  rcases hq' with ⟨⟨x1, x2⟩, ⟨y3, y4, y5, y6⟩, hq'⟩ | ⟨_, hq'⟩
  case' inr =>
    cases hq'
    refine mj_T.if0 (a := 0) rfl ⟨by decide, by decide⟩ (fun hc => ?_) (fun hc => ?_)
    · simp [jc] at hc
    iterate 2 refine mj_T.pl rfl rfl rfl rfl ?_
    refine mj_T.call (ins := .invokevirtual 198) rfl rfl (Nat.le_of_ble_eq_true rfl) (Nat.le_of_ble_eq_true rfl) (by simp [mj_recv, rS_f hs14]) rfl (mj_Ok.up (by decide) (rp_fails (D := 0) (c := 1) hs14)) (fun v' g15 hq' => ?_) (fun i h' hq' => by obtain ⟨_, _, h⟩ := hq'; cases h)
    obtain ⟨_, hs15, hq'⟩ := hq'
    cases hq'
    exact mj_T.ret rfl rfl rfl ⟨0, g15, ⟨by decide, by decide⟩, rfl, ⟨_, N, B, X, V, hs15, K14.put ⟨by decide, by decide⟩ (by decide) (by decide) (by decide) (by decide) (by decide)⟩⟩
  cases hq'
  refine mj_T.if0 (a := 1) rfl ⟨by decide, by decide⟩ (fun hc => ?_) (fun hc => ?_)
  rotate_left
  · simp [jc] at hc
  obtain ⟨x, rfl⟩ := Int.eq_ofNat_of_zero_le x1
  obtain ⟨y, rfl⟩ := Int.eq_ofNat_of_zero_le y3
  iterate 3 refine mj_T.pl rfl rfl rfl rfl ?_
  refine mj_T.call (ins := .invokevirtual 213) rfl rfl (Nat.le_of_ble_eq_true rfl) (Nat.le_of_ble_eq_true rfl) (by simp [mj_recv, rS_f hs14]) rfl (mj_Ok.up (by decide) (rp_loads (D := 0) (p := 0) (r := y) (by decide) (by omega) K14.nR hs14)) (fun v' g16 hq' => ?_) (fun i h' hq' => by obtain ⟨_, _, h⟩ := hq'; cases h)
  obtain ⟨_, hs16, hq'⟩ := hq'
  cases hq'
  have a16 : ∀ e, e < 13 → jfl V 0 (fun e => N (y * 13 + e)) 13 (0 * 13 + e) = N (y * 13 + e) := fun e he => jfl_at _ _ _ he
  have b16 : ∀ s, (s < 0 * 13 ∨ 0 * 13 + 13 ≤ s) → jfl V 0 (fun e => N (y * 13 + e)) 13 s = V s := fun s hc => jfl_off _ _ _ hc
  generalize jfl V 0 (fun e => N (y * 13 + e)) 13 = W16 at hs16 a16 b16
  have c1 : ∀ e, e < 13 → (W16 (0 * 13 + e)).natAbs ≤ 10 ^ 18 := fun e he => by
    rw [a16 e he]
    exact K14.sh (r := y) (by omega) he
  iterate 3 refine mj_T.pl rfl rfl rfl rfl ?_
  refine mj_T.call (ins := .invokevirtual 149) rfl rfl (Nat.le_of_ble_eq_true rfl) (Nat.le_of_ble_eq_true rfl) (by simp [mj_recv, rS_f hs16]) rfl (mj_Ok.up (by decide) (jp_derives (D := 0) (V := W16) (rG S14 N B T X) (p := 1) (a := 0) (by decide) (by decide) (by decide) (fun e he => jnl_of_lt (M := 10 ^ 18 * 13) (by rw [Int.natAbs_mul]; exact Nat.mul_le_mul (c1 (e + 1) (by omega)) (by omega)) kq_small) hs16)) (fun v' g17 hq' => ?_) (fun i h' hq' => by obtain ⟨_, _, _, _, h⟩ := hq'; cases h)
  obtain ⟨W17, _, hs17, _, hq'⟩ := hq'
  cases hq'
  iterate 4 refine mj_T.pl rfl rfl rfl rfl ?_
  refine mj_T.call (ins := .invokevirtual 219) rfl rfl (Nat.le_of_ble_eq_true rfl) (Nat.le_of_ble_eq_true rfl) (by simp [mj_recv, rS_f hs17]) rfl (mj_Ok.up (by decide) (rp_puts (D := 0) (r := x) (p := 1) (c := 2) (by omega) (by decide) ⟨by decide, by decide⟩ K14 hs17)) (fun v' h' hq' => ?_) (fun i h' hq' => by obtain ⟨_, _, _, h, _⟩ := hq'; cases h)
  obtain ⟨z9, h9, hz9, e9, hI9⟩ := hq'
  cases e9
  exact mj_T.ret rfl rfl rfl ⟨z9, _, hz9, rfl, hI9⟩
theorem rp_primitive {x y : Int} (hx : jr x) (hy : jr y) (hI : jI tm er T h) : mj_Ok 40 239 [.ref 0, .int (jn x), .int (jn y)] h (rI tm er T) := by
  refine mj_Ok.of (M := mj_m239) rfl rfl rfl ?_
  obtain ⟨S, N, B, X, V, hs, K⟩ := hI
  iterate 2 refine mj_T.pl rfl rfl rfl rfl ?_
  refine rT_put (v := 0) hs rfl rfl (by decide) rfl (fun g18 hs18 => ?_)
  have K18 := K.put (k := 3) (v := 0) ⟨by decide, by decide⟩ (by decide) (by decide) (by decide) (by decide) (by decide)
  generalize jvu S 3 0 = S18 at hs18 K18
  iterate 3 refine mj_T.pl rfl rfl rfl rfl ?_
  refine mj_T.call (ins := .invokestatic 210) rfl rfl (Nat.le_of_ble_eq_true rfl) (Nat.le_of_ble_eq_true rfl) rfl rfl (mj_Ok.up (by decide) (rp_areRegisters (D := 0) hx hy hy)) (fun v' h' hq' => ?_) (fun i h' hq' => by rcases hq' with ⟨_, _, h⟩ | ⟨_, h⟩ <;> cases h)
  rcases hq' with ⟨⟨x1, x2⟩, ⟨y3, y4, y5, y6⟩, hq'⟩ | ⟨_, hq'⟩
  case' inr =>
    cases hq'
    refine mj_T.if0 (a := 0) rfl ⟨by decide, by decide⟩ (fun hc => ?_) (fun hc => ?_)
    · simp [jc] at hc
    iterate 2 refine mj_T.pl rfl rfl rfl rfl ?_
    refine mj_T.call (ins := .invokevirtual 198) rfl rfl (Nat.le_of_ble_eq_true rfl) (Nat.le_of_ble_eq_true rfl) (by simp [mj_recv, rS_f hs18]) rfl (mj_Ok.up (by decide) (rp_fails (D := 0) (c := 1) hs18)) (fun v' g19 hq' => ?_) (fun i h' hq' => by obtain ⟨_, _, h⟩ := hq'; cases h)
    obtain ⟨_, hs19, hq'⟩ := hq'
    cases hq'
    exact mj_T.ret rfl rfl rfl ⟨0, g19, ⟨by decide, by decide⟩, rfl, ⟨_, N, B, X, V, hs19, K18.put ⟨by decide, by decide⟩ (by decide) (by decide) (by decide) (by decide) (by decide)⟩⟩
  cases hq'
  refine mj_T.if0 (a := 1) rfl ⟨by decide, by decide⟩ (fun hc => ?_) (fun hc => ?_)
  rotate_left
  · simp [jc] at hc
  obtain ⟨x, rfl⟩ := Int.eq_ofNat_of_zero_le x1
  obtain ⟨y, rfl⟩ := Int.eq_ofNat_of_zero_le y3
  iterate 3 refine mj_T.pl rfl rfl rfl rfl ?_
  refine mj_T.call (ins := .invokevirtual 213) rfl rfl (Nat.le_of_ble_eq_true rfl) (Nat.le_of_ble_eq_true rfl) (by simp [mj_recv, rS_f hs18]) rfl (mj_Ok.up (by decide) (rp_loads (D := 0) (p := 0) (r := y) (by decide) (by omega) K18.nR hs18)) (fun v' g20 hq' => ?_) (fun i h' hq' => by obtain ⟨_, _, h⟩ := hq'; cases h)
  obtain ⟨_, hs20, hq'⟩ := hq'
  cases hq'
  have a20 : ∀ e, e < 13 → jfl V 0 (fun e => N (y * 13 + e)) 13 (0 * 13 + e) = N (y * 13 + e) := fun e he => jfl_at _ _ _ he
  have b20 : ∀ s, (s < 0 * 13 ∨ 0 * 13 + 13 ≤ s) → jfl V 0 (fun e => N (y * 13 + e)) 13 s = V s := fun s hc => jfl_off _ _ _ hc
  generalize jfl V 0 (fun e => N (y * 13 + e)) 13 = W20 at hs20 a20 b20
  iterate 2 refine mj_T.pl rfl rfl rfl rfl ?_
  refine mj_T.call (ins := .invokevirtual 142) rfl rfl (Nat.le_of_ble_eq_true rfl) (Nat.le_of_ble_eq_true rfl) (by simp [mj_recv, rS_f hs20]) rfl (mj_Ok.up (by decide) (jp_makesPrimitive (D := 0) (rG S18 N B T X) (p := 0) (by decide) hs20)) (fun v' g21 hq' => ?_) (fun i h' hq' => by obtain ⟨_, _, _, _, _, h⟩ := hq'; cases h)
  obtain ⟨W21, _, hs21, _, _, hq'⟩ := hq'
  cases hq'
  iterate 4 refine mj_T.pl rfl rfl rfl rfl ?_
  refine mj_T.call (ins := .invokevirtual 219) rfl rfl (Nat.le_of_ble_eq_true rfl) (Nat.le_of_ble_eq_true rfl) (by simp [mj_recv, rS_f hs21]) rfl (mj_Ok.up (by decide) (rp_puts (D := 0) (r := x) (p := 0) (c := 2) (by omega) (by decide) ⟨by decide, by decide⟩ K18 hs21)) (fun v' h' hq' => ?_) (fun i h' hq' => by obtain ⟨_, _, _, h, _⟩ := hq'; cases h)
  obtain ⟨z9, h9, hz9, e9, hI9⟩ := hq'
  cases e9
  exact mj_T.ret rfl rfl rfl ⟨z9, _, hz9, rfl, hI9⟩
theorem rp_simple {x y : Int} (hx : jr x) (hy : jr y) (hI : jI tm er T h) : mj_Ok 40 240 [.ref 0, .int (jn x), .int (jn y)] h (rI tm er T) := by
  refine mj_Ok.of (M := mj_m240) rfl rfl rfl ?_
  obtain ⟨S, N, B, X, V, hs, K⟩ := hI
  iterate 2 refine mj_T.pl rfl rfl rfl rfl ?_
  refine rT_put (v := 0) hs rfl rfl (by decide) rfl (fun g22 hs22 => ?_)
  have K22 := K.put (k := 3) (v := 0) ⟨by decide, by decide⟩ (by decide) (by decide) (by decide) (by decide) (by decide)
  generalize jvu S 3 0 = S22 at hs22 K22
  iterate 3 refine mj_T.pl rfl rfl rfl rfl ?_
  refine mj_T.call (ins := .invokestatic 210) rfl rfl (Nat.le_of_ble_eq_true rfl) (Nat.le_of_ble_eq_true rfl) rfl rfl (mj_Ok.up (by decide) (rp_areRegisters (D := 0) hx hy hy)) (fun v' h' hq' => ?_) (fun i h' hq' => by rcases hq' with ⟨_, _, h⟩ | ⟨_, h⟩ <;> cases h)
  rcases hq' with ⟨⟨x1, x2⟩, ⟨y3, y4, y5, y6⟩, hq'⟩ | ⟨_, hq'⟩
  case' inr =>
    cases hq'
    refine mj_T.if0 (a := 0) rfl ⟨by decide, by decide⟩ (fun hc => ?_) (fun hc => ?_)
    · simp [jc] at hc
    iterate 2 refine mj_T.pl rfl rfl rfl rfl ?_
    refine mj_T.call (ins := .invokevirtual 198) rfl rfl (Nat.le_of_ble_eq_true rfl) (Nat.le_of_ble_eq_true rfl) (by simp [mj_recv, rS_f hs22]) rfl (mj_Ok.up (by decide) (rp_fails (D := 0) (c := 1) hs22)) (fun v' g23 hq' => ?_) (fun i h' hq' => by obtain ⟨_, _, h⟩ := hq'; cases h)
    obtain ⟨_, hs23, hq'⟩ := hq'
    cases hq'
    exact mj_T.ret rfl rfl rfl ⟨0, g23, ⟨by decide, by decide⟩, rfl, ⟨_, N, B, X, V, hs23, K22.put ⟨by decide, by decide⟩ (by decide) (by decide) (by decide) (by decide) (by decide)⟩⟩
  cases hq'
  refine mj_T.if0 (a := 1) rfl ⟨by decide, by decide⟩ (fun hc => ?_) (fun hc => ?_)
  rotate_left
  · simp [jc] at hc
  obtain ⟨x, rfl⟩ := Int.eq_ofNat_of_zero_le x1
  obtain ⟨y, rfl⟩ := Int.eq_ofNat_of_zero_le y3
  iterate 2 refine mj_T.pl rfl rfl rfl rfl ?_
  refine mj_T.call (ins := .invokevirtual 232) rfl rfl (Nat.le_of_ble_eq_true rfl) (Nat.le_of_ble_eq_true rfl) (by simp [mj_recv, rS_f hs22]) rfl (mj_Ok.up (by decide) (rp_isZero (D := 0) (r := y) (by omega) K22.nR hs22)) (fun v' h' hq' => ?_) (fun i h' hq' => by rcases hq' with ⟨_, h⟩ | ⟨_, h⟩ <;> cases h)
  rcases hq' with ⟨_, hq'⟩ | ⟨nz24, hq'⟩
  case' inl =>
    cases hq'
    refine mj_T.if0 (a := 1) rfl ⟨by decide, by decide⟩ (fun hc => ?_) (fun hc => ?_)
    · simp [jc] at hc
    iterate 2 refine mj_T.pl rfl rfl rfl rfl ?_
    refine mj_T.call (ins := .invokevirtual 198) rfl rfl (Nat.le_of_ble_eq_true rfl) (Nat.le_of_ble_eq_true rfl) (by simp [mj_recv, rS_f hs22]) rfl (mj_Ok.up (by decide) (rp_fails (D := 0) (c := 2) hs22)) (fun v' g25 hq' => ?_) (fun i h' hq' => by obtain ⟨_, _, h⟩ := hq'; cases h)
    obtain ⟨_, hs25, hq'⟩ := hq'
    cases hq'
    exact mj_T.ret rfl rfl rfl ⟨0, g25, ⟨by decide, by decide⟩, rfl, ⟨_, N, B, X, V, hs25, K22.put ⟨by decide, by decide⟩ (by decide) (by decide) (by decide) (by decide) (by decide)⟩⟩
  cases hq'
  refine mj_T.if0 (a := 0) rfl ⟨by decide, by decide⟩ (fun hc => ?_) (fun hc => ?_)
  rotate_left
  · simp [jc] at hc
  iterate 3 refine mj_T.pl rfl rfl rfl rfl ?_
  refine mj_T.call (ins := .invokevirtual 213) rfl rfl (Nat.le_of_ble_eq_true rfl) (Nat.le_of_ble_eq_true rfl) (by simp [mj_recv, rS_f hs22]) rfl (mj_Ok.up (by decide) (rp_loads (D := 0) (p := 0) (r := y) (by decide) (by omega) K22.nR hs22)) (fun v' g26 hq' => ?_) (fun i h' hq' => by obtain ⟨_, _, h⟩ := hq'; cases h)
  obtain ⟨_, hs26, hq'⟩ := hq'
  cases hq'
  have a26 : ∀ e, e < 13 → jfl V 0 (fun e => N (y * 13 + e)) 13 (0 * 13 + e) = N (y * 13 + e) := fun e he => jfl_at _ _ _ he
  have b26 : ∀ s, (s < 0 * 13 ∨ 0 * 13 + 13 ≤ s) → jfl V 0 (fun e => N (y * 13 + e)) 13 s = V s := fun s hc => jfl_off _ _ _ hc
  generalize jfl V 0 (fun e => N (y * 13 + e)) 13 = W26 at hs26 a26 b26
  have c1 : ∀ e, e < 13 → (W26 (0 * 13 + e)).natAbs ≤ 10 ^ 18 := fun e he => by
    rw [a26 e he]
    exact K22.sh (r := y) (by omega) he
  have c2 : jpo W26 0 ≠ pz_0 := jpo_ne_of (by rw [jdg_congr 13 a26]; exact nz24)
  iterate 3 refine mj_T.pl rfl rfl rfl rfl ?_
  refine mj_T.call (ins := .invokevirtual 235) rfl rfl (Nat.le_of_ble_eq_true rfl) (Nat.le_of_ble_eq_true rfl) (by simp [mj_recv, rS_f hs26]) rfl (mj_Ok.up (by decide) (jp_simplifies (D := 0) (rG S22 N B T X) c2 c1 hs26)) (fun v' g27 hq' => ?_) (fun i h' hq' => by obtain ⟨_, _, _, _, _, h⟩ := hq'; cases h)
  obtain ⟨W27, _, hs27, _, _, hq'⟩ := hq'
  cases hq'
  iterate 4 refine mj_T.pl rfl rfl rfl rfl ?_
  refine mj_T.call (ins := .invokevirtual 219) rfl rfl (Nat.le_of_ble_eq_true rfl) (Nat.le_of_ble_eq_true rfl) (by simp [mj_recv, rS_f hs27]) rfl (mj_Ok.up (by decide) (rp_puts (D := 0) (r := x) (p := 8) (c := 3) (by omega) (by decide) ⟨by decide, by decide⟩ K22 hs27)) (fun v' h' hq' => ?_) (fun i h' hq' => by obtain ⟨_, _, _, h, _⟩ := hq'; cases h)
  obtain ⟨z9, h9, hz9, e9, hI9⟩ := hq'
  cases e9
  exact mj_T.ret rfl rfl rfl ⟨z9, _, hz9, rfl, hI9⟩
theorem rp_divide {x y z u : Int} (hx : jr x) (hy : jr y) (hz : jr z) (hu : jr u) (hI : jI tm er T h) : mj_Ok 40 237 [.ref 0, .int (jn x), .int (jn y), .int (jn z), .int (jn u)] h (rI tm er T) := by
  refine mj_Ok.of (M := mj_m237) rfl rfl rfl ?_
  obtain ⟨S, N, B, X, V, hs, K⟩ := hI
  iterate 2 refine mj_T.pl rfl rfl rfl rfl ?_
  refine rT_put (v := 0) hs rfl rfl (by decide) rfl (fun g28 hs28 => ?_)
  have K28 := K.put (k := 3) (v := 0) ⟨by decide, by decide⟩ (by decide) (by decide) (by decide) (by decide) (by decide)
  generalize jvu S 3 0 = S28 at hs28 K28
  have t22 : mj_T 39 mj_m237 22 [some (.ref 0), some (.int (jn x)), some (.int (jn y)), some (.int (jn z)), some (.int (jn u)), none] [] g28 (rI tm er T) := by
    iterate 2 refine mj_T.pl rfl rfl rfl rfl ?_
    refine mj_T.call (ins := .invokevirtual 198) rfl rfl (Nat.le_of_ble_eq_true rfl) (Nat.le_of_ble_eq_true rfl) (by simp [mj_recv, rS_f hs28]) rfl (mj_Ok.up (by decide) (rp_fails (D := 0) (c := 1) hs28)) (fun v' g29 hq' => ?_) (fun i h' hq' => by obtain ⟨_, _, h⟩ := hq'; cases h)
    obtain ⟨_, hs29, hq'⟩ := hq'
    cases hq'
    exact mj_T.ret rfl rfl rfl ⟨0, g29, ⟨by decide, by decide⟩, rfl, ⟨_, N, B, X, V, hs29, K28.put ⟨by decide, by decide⟩ (by decide) (by decide) (by decide) (by decide) (by decide)⟩⟩
  iterate 3 refine mj_T.pl rfl rfl rfl rfl ?_
  refine mj_T.call (ins := .invokestatic 210) rfl rfl (Nat.le_of_ble_eq_true rfl) (Nat.le_of_ble_eq_true rfl) rfl rfl (mj_Ok.up (by decide) (rp_areRegisters (D := 0) hx hy hz)) (fun v' h' hq' => ?_) (fun i h' hq' => by rcases hq' with ⟨_, _, h⟩ | ⟨_, h⟩ <;> cases h)
  rcases hq' with ⟨⟨x1, x2⟩, ⟨y1, y2, z1, z2⟩, hq'⟩ | ⟨_, hq'⟩
  case' inr =>
    cases hq'
    refine mj_T.if0 (a := 0) rfl ⟨by decide, by decide⟩ (fun hc => ?_) (fun hc => ?_)
    · exact t22
    · simp [jc] at hc
  cases hq'
  refine mj_T.if0 (a := 1) rfl ⟨by decide, by decide⟩ (fun hc => ?_) (fun hc => ?_)
  · simp [jc] at hc
  refine mj_T.pl rfl rfl rfl rfl ?_
  refine mj_T.call (ins := .invokestatic 181) rfl rfl (Nat.le_of_ble_eq_true rfl) (Nat.le_of_ble_eq_true rfl) rfl rfl (mj_Ok.up (by decide) (rp_isRegister (D := 0) hu)) (fun v' h' hq' => ?_) (fun i h' hq' => by rcases hq' with ⟨_, _, h⟩ | ⟨_, h⟩ <;> cases h)
  rcases hq' with ⟨u1, u2, hq'⟩ | ⟨_, hq'⟩
  case' inr =>
    cases hq'
    refine mj_T.if0 (a := 0) rfl ⟨by decide, by decide⟩ (fun hc => ?_) (fun hc => ?_)
    · simp [jc] at hc
    · exact t22
  cases hq'
  refine mj_T.if0 (a := 1) rfl ⟨by decide, by decide⟩ (fun hc => ?_) (fun hc => ?_)
  rotate_left
  · simp [jc] at hc
  clear t22
  obtain ⟨x, rfl⟩ := Int.eq_ofNat_of_zero_le x1
  obtain ⟨y, rfl⟩ := Int.eq_ofNat_of_zero_le y1
  obtain ⟨z, rfl⟩ := Int.eq_ofNat_of_zero_le z1
  obtain ⟨u, rfl⟩ := Int.eq_ofNat_of_zero_le u1
  iterate 2 refine mj_T.pl rfl rfl rfl rfl ?_
  refine mj_T.icmp (a := (x : Int)) (b := (y : Int)) rfl hx hy (fun hc => ?_) (fun hc => ?_)
  rotate_left
  · have hcc := hc
    iterate 2 refine mj_T.pl rfl rfl rfl rfl ?_
    refine mj_T.call (ins := .invokevirtual 198) rfl rfl (Nat.le_of_ble_eq_true rfl) (Nat.le_of_ble_eq_true rfl) (by simp [mj_recv, rS_f hs28]) rfl (mj_Ok.up (by decide) (rp_fails (D := 0) (c := 2) hs28)) (fun v' g30 hq' => ?_) (fun i h' hq' => by obtain ⟨_, _, h⟩ := hq'; cases h)
    obtain ⟨_, hs30, hq'⟩ := hq'
    cases hq'
    exact mj_T.ret rfl rfl rfl ⟨0, g30, ⟨by decide, by decide⟩, rfl, ⟨_, N, B, X, V, hs30, K28.put ⟨by decide, by decide⟩ (by decide) (by decide) (by decide) (by decide) (by decide)⟩⟩
  iterate 2 refine mj_T.pl rfl rfl rfl rfl ?_
  refine mj_T.call (ins := .invokevirtual 232) rfl rfl (Nat.le_of_ble_eq_true rfl) (Nat.le_of_ble_eq_true rfl) (by simp [mj_recv, rS_f hs28]) rfl (mj_Ok.up (by decide) (rp_isZero (D := 0) (r := u) (by omega) K28.nR hs28)) (fun v' h' hq' => ?_) (fun i h' hq' => by rcases hq' with ⟨_, h⟩ | ⟨_, h⟩ <;> cases h)
  rcases hq' with ⟨_, hq'⟩ | ⟨nz31, hq'⟩
  case' inl =>
    cases hq'
    refine mj_T.if0 (a := 1) rfl ⟨by decide, by decide⟩ (fun hc => ?_) (fun hc => ?_)
    · simp [jc] at hc
    iterate 2 refine mj_T.pl rfl rfl rfl rfl ?_
    refine mj_T.call (ins := .invokevirtual 198) rfl rfl (Nat.le_of_ble_eq_true rfl) (Nat.le_of_ble_eq_true rfl) (by simp [mj_recv, rS_f hs28]) rfl (mj_Ok.up (by decide) (rp_fails (D := 0) (c := 3) hs28)) (fun v' g32 hq' => ?_) (fun i h' hq' => by obtain ⟨_, _, h⟩ := hq'; cases h)
    obtain ⟨_, hs32, hq'⟩ := hq'
    cases hq'
    exact mj_T.ret rfl rfl rfl ⟨0, g32, ⟨by decide, by decide⟩, rfl, ⟨_, N, B, X, V, hs32, K28.put ⟨by decide, by decide⟩ (by decide) (by decide) (by decide) (by decide) (by decide)⟩⟩
  cases hq'
  refine mj_T.if0 (a := 0) rfl ⟨by decide, by decide⟩ (fun hc => ?_) (fun hc => ?_)
  rotate_left
  · simp [jc] at hc
  iterate 3 refine mj_T.pl rfl rfl rfl rfl ?_
  refine mj_T.call (ins := .invokevirtual 213) rfl rfl (Nat.le_of_ble_eq_true rfl) (Nat.le_of_ble_eq_true rfl) (by simp [mj_recv, rS_f hs28]) rfl (mj_Ok.up (by decide) (rp_loads (D := 0) (p := 0) (r := z) (by decide) (by omega) K28.nR hs28)) (fun v' g33 hq' => ?_) (fun i h' hq' => by obtain ⟨_, _, h⟩ := hq'; cases h)
  obtain ⟨_, hs33, hq'⟩ := hq'
  cases hq'
  have a33 : ∀ e, e < 13 → jfl V 0 (fun e => N (z * 13 + e)) 13 (0 * 13 + e) = N (z * 13 + e) := fun e he => jfl_at _ _ _ he
  have b33 : ∀ s, (s < 0 * 13 ∨ 0 * 13 + 13 ≤ s) → jfl V 0 (fun e => N (z * 13 + e)) 13 s = V s := fun s hc => jfl_off _ _ _ hc
  generalize jfl V 0 (fun e => N (z * 13 + e)) 13 = W33 at hs33 a33 b33
  iterate 3 refine mj_T.pl rfl rfl rfl rfl ?_
  refine mj_T.call (ins := .invokevirtual 213) rfl rfl (Nat.le_of_ble_eq_true rfl) (Nat.le_of_ble_eq_true rfl) (by simp [mj_recv, rS_f hs33]) rfl (mj_Ok.up (by decide) (rp_loads (D := 0) (p := 1) (r := u) (by decide) (by omega) K28.nR hs33)) (fun v' g34 hq' => ?_) (fun i h' hq' => by obtain ⟨_, _, h⟩ := hq'; cases h)
  obtain ⟨_, hs34, hq'⟩ := hq'
  cases hq'
  have a34 : ∀ e, e < 13 → jfl W33 1 (fun e => N (u * 13 + e)) 13 (1 * 13 + e) = N (u * 13 + e) := fun e he => jfl_at _ _ _ he
  have b34 : ∀ s, (s < 1 * 13 ∨ 1 * 13 + 13 ≤ s) → jfl W33 1 (fun e => N (u * 13 + e)) 13 s = W33 s := fun s hc => jfl_off _ _ _ hc
  generalize jfl W33 1 (fun e => N (u * 13 + e)) 13 = W34 at hs34 a34 b34
  have c1 : ∀ e, e < 13 → (W34 (0 * 13 + e)).natAbs ≤ 10 ^ 18 := fun e he => by
    rw [b34 _ (by omega), a33 e he]
    exact K28.sh (r := z) (by omega) he
  have c2 : ∀ e, e < 13 → (W34 (1 * 13 + e)).natAbs ≤ 10 ^ 18 := fun e he => by
    rw [a34 e he]
    exact K28.sh (r := u) (by omega) he
  have hj : 1 ≤ jdg W34 1 13 := by rw [jdg_congr 13 a34]; exact nz31
  have hjl := jdg_le W34 0 13
  have hjl2 := jdg_le W34 1 13
  iterate 5 refine mj_T.pl rfl rfl rfl rfl ?_
  refine mj_T.call (ins := .invokevirtual 145) rfl rfl (Nat.le_of_ble_eq_true rfl) (Nat.le_of_ble_eq_true rfl) (by simp [mj_recv, rS_f hs34]) rfl (mj_Ok.up (by decide) (jp_dividesPoly (D := 0) (rG S28 N B T X) (a := 0) (b := 1) (db := jdg W34 1 13 - 1) (lc := W34 (1 * 13 + (jdg W34 1 13 - 1))) (al := 10 ^ 18) (be := 10 ^ 18) (by decide) (by decide) (by decide) (by decide) (by decide) (by decide) (by omega) rfl c1 c2 (by decide) (Nat.lt_of_le_of_lt (Nat.mul_le_mul_left _ (Nat.pow_le_pow_right (by decide) (by omega : _ ≤ 13))) rp_small4) hs34)) (fun v' g35 hq' => ?_) (fun i h' hq' => by obtain ⟨_, _, _, _, _, _, _, h⟩ := hq'; cases h)
  obtain ⟨W35, _, hs35, _, _, _, _, hq'⟩ := hq'
  cases hq'
  have t93 : ∀ e5, mj_T 39 mj_m237 93 [some (.ref 0), some (.int (jn (x : Int))), some (.int (jn (y : Int))), some (.int (jn (z : Int))), some (.int (jn (u : Int))), e5] [] g35 (rI tm er T) := fun e5 => by
    iterate 2 refine mj_T.pl rfl rfl rfl rfl ?_
    refine mj_T.call (ins := .invokevirtual 198) rfl rfl (Nat.le_of_ble_eq_true rfl) (Nat.le_of_ble_eq_true rfl) (by simp [mj_recv, rS_f hs35]) rfl (mj_Ok.up (by decide) (rp_fails (D := 0) (c := 4) hs35)) (fun v' g36 hq' => ?_) (fun i h' hq' => by obtain ⟨_, _, h⟩ := hq'; cases h)
    obtain ⟨_, hs36, hq'⟩ := hq'
    cases hq'
    exact mj_T.ret rfl rfl rfl ⟨0, g36, ⟨by decide, by decide⟩, rfl, ⟨_, N, B, X, W35, hs36, K28.put ⟨by decide, by decide⟩ (by decide) (by decide) (by decide) (by decide) (by decide)⟩⟩
  iterate 3 refine mj_T.pl rfl rfl rfl rfl ?_
  refine mj_T.call (ins := .invokevirtual 195) rfl rfl (Nat.le_of_ble_eq_true rfl) (Nat.le_of_ble_eq_true rfl) (by simp [mj_recv, rS_f hs35]) rfl (mj_Ok.up (by decide) (jp_isInBounds (D := 0) (rG S28 N B T X) (p := 2) (by decide) (fun e he => jS_700 hs35 (by omega)) hs35)) (fun v' h' hq' => ?_) (fun i h' hq' => by cases hq')
  cases hq'
  have hb2 := jib_le W35 2 13
  refine mj_T.if0 (a := ((jib W35 2 13 : Nat) : Int)) rfl ⟨by omega, by omega⟩ (fun hc1 => ?_) (fun hc1 => ?_)
  · exact t93 _
  iterate 2 refine mj_T.pl rfl rfl rfl rfl ?_
  refine mj_T.call (ins := .invokevirtual 195) rfl rfl (Nat.le_of_ble_eq_true rfl) (Nat.le_of_ble_eq_true rfl) (by simp [mj_recv, rS_f hs35]) rfl (mj_Ok.up (by decide) (jp_isInBounds (D := 0) (rG S28 N B T X) (p := 3) (by decide) (fun e he => jS_700 hs35 (by omega)) hs35)) (fun v' h' hq' => ?_) (fun i h' hq' => by cases hq')
  cases hq'
  have hb3 := jib_le W35 3 13
  refine mj_T.if0 (a := ((jib W35 3 13 : Nat) : Int)) rfl ⟨by omega, by omega⟩ (fun hc2 => ?_) (fun hc2 => ?_)
  rotate_left
  · exact t93 _
  simp only [jc, Bool.not_eq_true', Bool.not_eq_false', decide_eq_false_iff_not] at hc1 hc2
  have q2 := jib_short (V := W35) (p := 2) (by omega)
  have q3 := jib_short (V := W35) (p := 3) (by omega)
  refine mj_T.pl rfl rfl rfl rfl ?_
  refine mj_T.call (ins := .invokevirtual 201) rfl rfl (Nat.le_of_ble_eq_true rfl) (Nat.le_of_ble_eq_true rfl) (by simp [mj_recv, rS_f hs35]) rfl (mj_Ok.up (by decide) (rp_keeps (D := 0) K28 hs35)) (fun v' g37 hq' => ?_) (fun i h' hq' => by obtain ⟨_, _, _, _, _, _, h⟩ := hq'; cases h)
  obtain ⟨S37, B37, _, hs37, K37, _, hq'⟩ := hq'
  cases hq'
  iterate 3 refine mj_T.pl rfl rfl rfl rfl ?_
  refine mj_T.call (ins := .invokevirtual 204) rfl rfl (Nat.le_of_ble_eq_true rfl) (Nat.le_of_ble_eq_true rfl) (by simp [mj_recv, rS_f hs37]) rfl (mj_Ok.up (by decide) (rp_stores (D := 0) (p := 2) (r := x) (by decide) (by omega) hs37)) (fun v' g38 hq' => ?_) (fun i h' hq' => by obtain ⟨_, _, h⟩ := hq'; cases h)
  obtain ⟨_, hs38, hq'⟩ := hq'
  cases hq'
  have K38 := K37.row (gN_row K37.1 (r := x) (p := 2) (V := W35) (by omega) q2)
  generalize jfl N x (fun e => W35 (2 * 13 + e)) 13 = N38 at hs38 K38
  iterate 3 refine mj_T.pl rfl rfl rfl rfl ?_
  refine mj_T.call (ins := .invokevirtual 204) rfl rfl (Nat.le_of_ble_eq_true rfl) (Nat.le_of_ble_eq_true rfl) (by simp [mj_recv, rS_f hs38]) rfl (mj_Ok.up (by decide) (rp_stores (D := 0) (p := 3) (r := y) (by decide) (by omega) hs38)) (fun v' g39 hq' => ?_) (fun i h' hq' => by obtain ⟨_, _, h⟩ := hq'; cases h)
  obtain ⟨_, hs39, hq'⟩ := hq'
  cases hq'
  have K39 := K38.row (gN_row K38.1 (r := y) (p := 3) (V := W35) (by omega) q3)
  generalize jfl N38 y (fun e => W35 (3 * 13 + e)) 13 = N39 at hs39 K39
  refine mj_T.pl rfl rfl rfl rfl ?_
  exact mj_T.ret rfl rfl rfl ⟨_, g39, ⟨by omega, by omega⟩, rfl, ⟨S37, N39, B37, X, W35, hs39, K39⟩⟩
end RPU
/-! Calls of the reference: residues, terms, points, undo. -/
theorem gN_put {N : Nat → Int} {j : Nat} {z : Int} (g : gN N) (hj : j < 78) (hz : -999999999999999999 ≤ z ∧ z ≤ 999999999999999999) : gN (jvu N j z) := by
  obtain ⟨g1, g2, g3, g4⟩ := g
  have e : ∀ x, 78 ≤ x → jvu N j z x = N x := fun x hx => jvu_ne _ _ _ (by omega)
  refine ⟨fun x hx => ?_, by rw [e 78 (by decide)]; exact g2, fun k hk => by rw [e _ (by omega), e _ (by omega)]; exact g3 k hk, fun i k hij hk => ?_⟩
  · by_cases q : x = j
    · subst q
      rw [jvu_at]
      exact hz
    · rw [jvu_ne _ _ _ q]
      exact g1 x hx
  · rw [e 78 (by decide)] at hk
    rw [e _ (by omega), e _ (by omega)]
    exact g4 i k hij hk
section RPU
variable {h : mj_H} {tm er : Int} {T : Nat → Int}
theorem rp_prime_loop {D x : Nat} (hx : 2 ≤ x) (hx2 : x ≤ 97) {Q : mj_R → Prop} (q1 : Q (.inl (some (.int (jn 1))), h)) (q0 : Q (.inl (some (.int (jn 0))), h)) :
    ∀ (m k : Nat), k + m = x → 2 ≤ k → mj_T D mj_m241 14 [some (.int (jn (x : Int))), some (.int (jn 1)), some (.int (jn (k : Int)))] [] h Q := by
  intro m
  induction m with
  | zero =>
    intro k hk h2
    iterate 2 refine mj_T.pl rfl rfl rfl rfl ?_
    refine mj_T.icmp (a := (k : Int)) (b := (x : Int)) rfl ⟨by omega, by omega⟩ ⟨by omega, by omega⟩ (fun hc => ?_) (fun hc => ?_)
    · refine mj_T.pl rfl rfl rfl rfl ?_
      exact mj_T.ret rfl rfl rfl q1
    · simp only [jc, decide_eq_false_iff_not] at hc
      omega
  | succ m ih =>
    intro k hk h2
    iterate 2 refine mj_T.pl rfl rfl rfl rfl ?_
    refine mj_T.icmp (a := (k : Int)) (b := (x : Int)) rfl ⟨by omega, by omega⟩ ⟨by omega, by omega⟩ (fun hc => ?_) (fun hc => ?_)
    · simp only [jc, decide_eq_true_eq] at hc
      omega
    refine mj_T.pl rfl rfl rfl rfl ?_
    refine mj_T.if0 (a := 1) rfl ⟨by decide, by decide⟩ (fun hc => ?_) (fun hc => ?_)
    · simp [jc] at hc
    iterate 2 refine mj_T.pl rfl rfl rfl rfl ?_
    refine mj_T.irem (a := (x : Int)) (b := (k : Int)) rfl ⟨by omega, by omega⟩ ⟨by omega, by omega⟩ (by omega) ?_
    have ht : (x : Int).tmod (k : Int) = ((x % k : Nat) : Int) := rfl
    have hl : x % k < k := Nat.mod_lt _ (by omega)
    refine mj_T.if0 (a := (x : Int).tmod (k : Int)) rfl ⟨by omega, by omega⟩ (fun hc => ?_) (fun hc => ?_)
    · refine mj_T.pl rfl rfl rfl rfl ?_
      refine mj_T.pl rfl rfl rfl rfl ?_
      refine mj_T.iinc (a := (k : Int)) rfl rfl ?_
      iterate 3 refine mj_T.pl rfl rfl rfl rfl ?_
      have t41 : mj_T D mj_m241 41 [some (.int (jn (x : Int))), some (.int (jn 0)), some (.int (jn ((k : Int) + 1)))] [] h Q := by
        refine mj_T.pl rfl rfl rfl rfl ?_
        exact mj_T.ret rfl rfl rfl q0
      refine mj_T.icmp (a := (k : Int) + 1) (b := (x : Int)) rfl ⟨by omega, by omega⟩ ⟨by omega, by omega⟩ (fun hc => ?_) (fun hc => ?_)
      · exact t41
      refine mj_T.pl rfl rfl rfl rfl ?_
      refine mj_T.if0 (a := 0) rfl ⟨by decide, by decide⟩ (fun hc => ?_) (fun hc => ?_)
      · exact t41
      · simp [jc] at hc
    · iterate 3 refine mj_T.pl rfl rfl rfl rfl ?_
      refine mj_T.iinc (a := (k : Int)) rfl rfl ?_
      refine mj_T.pl rfl rfl rfl rfl ?_
      exact ih (k + 1) (by omega) (by omega)
theorem rp_isPrime {x : Int} (hx : jr x) : mj_Ok 39 241 [.int (jn x)] h (fun r => (2 ≤ x ∧ x ≤ 97 ∧ r = (.inl (some (.int (jn 1))), h)) ∨ (True ∧ r = (.inl (some (.int (jn 0))), h))) := by
  refine mj_Ok.of (M := mj_m241) rfl rfl rfl ?_
  refine mj_T.pl rfl rfl rfl rfl ?_
  refine mj_T.i2l rfl hx ?_
  iterate 2 refine mj_T.pl rfl rfl rfl rfl ?_
  refine mj_T.call (ins := .invokestatic 177) rfl rfl (Nat.le_of_ble_eq_true rfl) (Nat.le_of_ble_eq_true rfl) rfl rfl (mj_Ok.up (by decide) (rp_in (D := 0) (v := x) (lo := 2) (hi := 97) ⟨by have := hx.1; omega, by have := hx.2; omega⟩ ⟨by decide, by decide⟩ ⟨by decide, by decide⟩)) (fun v' h' hq' => ?_) (fun i h' hq' => by rcases hq' with ⟨_, _, h⟩ | ⟨_, h⟩ <;> cases h)
  rcases hq' with ⟨c1, c2, hq'⟩ | ⟨_, hq'⟩
  · cases hq'
    obtain ⟨x, rfl⟩ := Int.eq_ofNat_of_zero_le (show 0 ≤ x by omega)
    iterate 3 refine mj_T.pl rfl rfl rfl rfl ?_
    exact rp_prime_loop (D := 38) (x := x) (by omega) (by omega) (Or.inl ⟨c1, c2, rfl⟩) (Or.inr ⟨trivial, rfl⟩) (x - 2) 2 (by omega) (by decide)
  · cases hq'
    iterate 5 refine mj_T.pl rfl rfl rfl rfl ?_
    have t41 : mj_T 38 mj_m241 41 [some (.int (jn x)), some (.int (jn 0)), some (.int (jn 2))] [] h (fun r => (2 ≤ x ∧ x ≤ 97 ∧ r = (.inl (some (.int (jn 1))), h)) ∨ (True ∧ r = (.inl (some (.int (jn 0))), h))) := by
      refine mj_T.pl rfl rfl rfl rfl ?_
      exact mj_T.ret rfl rfl rfl (Or.inr ⟨trivial, rfl⟩)
    refine mj_T.icmp (a := 2) (b := x) rfl ⟨by decide, by decide⟩ hx (fun hc => ?_) (fun hc => ?_)
    · exact t41
    refine mj_T.pl rfl rfl rfl rfl ?_
    refine mj_T.if0 (a := 0) rfl ⟨by decide, by decide⟩ (fun hc => ?_) (fun hc => ?_)
    · exact t41
    · simp [jc] at hc
theorem rp_rest {S N B X V : Nat → Int} {D r e x : Nat} (hr : r ≤ 5) (he : e < 13) (hx : 2 ≤ x) (hx2 : x ≤ 97) (hN : jR (N (r * 13 + e))) (hs : rS S N B T X V h) : mj_Ok (D + 1) 242 [.ref 0, .int (jn (r : Nat)), .int (jn (e : Nat)), .int (jn (x : Nat))] h (fun z => ∃ v : Int, (0 ≤ v ∧ v < x) ∧ z = (.inl (some (.long (jl v))), h)) := by
  refine mj_Ok.of (M := mj_m242) rfl rfl rfl ?_
  refine mj_T.pl rfl rfl rfl rfl ?_
  refine rT_get hs rfl rfl ?_
  iterate 2 refine mj_T.pl rfl rfl rfl rfl ?_
  refine mj_T.imul (a := (r : Int)) (b := 13) rfl ?_
  refine mj_T.pl rfl rfl rfl rfl ?_
  refine mj_T.iadd rfl ?_
  rw [show (r : Int) * 13 + (e : Int) = ((r * 13 + e : Nat) : Int) by omega]
  refine rT_ldN hs rfl ⟨by omega, by omega⟩ ?_
  rw [Int.toNat_natCast]
  refine mj_T.pl rfl rfl rfl rfl ?_
  refine mj_T.i2l rfl ⟨by omega, by omega⟩ ?_
  have t1 := Int.tmod_lt_of_pos (N (r * 13 + e)) (show (0 : Int) < (x : Int) by omega)
  have t2 := Int.lt_tmod_of_pos (N (r * 13 + e)) (show (0 : Int) < (x : Int) by omega)
  refine mj_T.lrem (a := N (r * 13 + e)) (b := (x : Int)) rfl hN ⟨by omega, by omega⟩ (by omega) ?_
  iterate 3 refine mj_T.pl rfl rfl rfl rfl ?_
  refine mj_T.lif (a := (N (r * 13 + e)).tmod (x : Int)) (b := 0) rfl rfl ⟨by omega, by omega⟩ ⟨by decide, by decide⟩ (fun hc => ?_) (fun hc => ?_)
  · simp only [jc, decide_eq_true_eq] at hc
    refine mj_T.pl rfl rfl rfl rfl ?_
    exact mj_T.ret rfl rfl rfl ⟨_, ⟨hc, t1⟩, rfl⟩
  · simp only [jc, decide_eq_false_iff_not] at hc
    iterate 2 refine mj_T.pl rfl rfl rfl rfl ?_
    refine mj_T.i2l rfl ⟨by omega, by omega⟩ ?_
    refine mj_T.ladd rfl ?_
    refine mj_T.pl rfl rfl rfl rfl ?_
    exact mj_T.ret rfl rfl rfl ⟨_, ⟨by omega, by omega⟩, rfl⟩
theorem rp_res_loop {S B X V : Nat → Int} {x y z : Nat} (hx : x ≤ 5) (hy : y ≤ 5) (hz : 2 ≤ z) (hz2 : z ≤ 97) :
    ∀ (d k : Nat) (N : Nat → Int) (h : mj_H), k + d = 13 → rS S N B T X V h → jK tm er S N B T → mj_T 39 mj_m243 40 [some (.ref 0), some (.int (jn (x : Int))), some (.int (jn (y : Int))), some (.int (jn (z : Int))), some (.int (jn (k : Int)))] [] h (rI tm er T) := by
  intro d
  induction d with
  | zero =>
    intro k N h hk hs K
    have hk : k = 13 := by omega
    subst hk
    iterate 2 refine mj_T.pl rfl rfl rfl rfl ?_
    refine mj_T.icmp (a := ((13 : Nat) : Int)) (b := 13) rfl ⟨by decide, by decide⟩ ⟨by decide, by decide⟩ (fun hc => ?_) (fun hc => ?_)
    · have hd := jdg_le N x 13
      iterate 2 refine mj_T.pl rfl rfl rfl rfl ?_
      refine mj_T.call (ins := .invokevirtual 185) rfl rfl (Nat.le_of_ble_eq_true rfl) (Nat.le_of_ble_eq_true rfl) (by simp [mj_recv, rS_f hs]) rfl (mj_Ok.up (by decide) (rp_degreeIn (D := 0) (r := x) hx K.nR hs)) (fun v' h' hq' => ?_) (fun i h' hq' => by cases hq')
      cases hq'
      exact mj_T.ret rfl rfl rfl ⟨_, h, ⟨by omega, by omega⟩, rfl, ⟨S, N, B, X, V, hs, K⟩⟩
    · simp [jc] at hc
  | succ d ih =>
    intro k N h hk hs K
    iterate 2 refine mj_T.pl rfl rfl rfl rfl ?_
    refine mj_T.icmp (a := (k : Int)) (b := 13) rfl ⟨by omega, by omega⟩ ⟨by decide, by decide⟩ (fun hc => ?_) (fun hc => ?_)
    · simp only [jc, decide_eq_true_eq] at hc
      omega
    refine mj_T.pl rfl rfl rfl rfl ?_
    refine rT_get hs rfl rfl ?_
    iterate 2 refine mj_T.pl rfl rfl rfl rfl ?_
    refine mj_T.imul (a := (x : Int)) (b := 13) rfl ?_
    refine mj_T.pl rfl rfl rfl rfl ?_
    refine mj_T.iadd rfl ?_
    rw [show (x : Int) * 13 + (k : Int) = ((x * 13 + k : Nat) : Int) by omega]
    iterate 4 refine mj_T.pl rfl rfl rfl rfl ?_
    refine mj_T.call (ins := .invokevirtual 243) rfl rfl (Nat.le_of_ble_eq_true rfl) (Nat.le_of_ble_eq_true rfl) (by simp [mj_recv, rS_f hs]) rfl (mj_Ok.up (by decide) (rp_rest (D := 0) (r := y) (e := k) (x := z) hy (by omega) hz hz2 (K.nR _ (by omega)) hs)) (fun v' h' hq' => ?_) (fun i h' hq' => by obtain ⟨_, _, h⟩ := hq'; cases h)
    obtain ⟨v, hv, hq'⟩ := hq'
    cases hq'
    refine rT_stN hs rfl ⟨by omega, by omega⟩ (fun h1 hs1 => ?_)
    rw [Int.toNat_natCast] at hs1
    refine mj_T.iinc (a := (k : Int)) rfl rfl ?_
    refine mj_T.pl rfl rfl rfl rfl ?_
    exact ih (k + 1) _ h1 (by omega) hs1 (K.row (gN_put K.1 (by omega) ⟨by omega, by omega⟩))
theorem rp_residue {x y z : Int} (hx : jr x) (hy : jr y) (hz : jr z) (hI : jI tm er T h) : mj_Ok 40 243 [.ref 0, .int (jn x), .int (jn y), .int (jn z)] h (rI tm er T) := by
  refine mj_Ok.of (M := mj_m243) rfl rfl rfl ?_
  obtain ⟨S, N, B, X, V, hs, K⟩ := hI
  iterate 2 refine mj_T.pl rfl rfl rfl rfl ?_
  refine rT_put (v := 0) hs rfl rfl (by decide) rfl (fun g1 hs1 => ?_)
  have K1 := K.put (k := 3) (v := 0) ⟨by decide, by decide⟩ (by decide) (by decide) (by decide) (by decide) (by decide)
  generalize jvu S 3 0 = S1 at hs1 K1
  iterate 3 refine mj_T.pl rfl rfl rfl rfl ?_
  refine mj_T.call (ins := .invokestatic 210) rfl rfl (Nat.le_of_ble_eq_true rfl) (Nat.le_of_ble_eq_true rfl) rfl rfl (mj_Ok.up (by decide) (rp_areRegisters (D := 0) hx hy hy)) (fun v' h' hq' => ?_) (fun i h' hq' => by rcases hq' with ⟨_, _, h⟩ | ⟨_, h⟩ <;> cases h)
  rcases hq' with ⟨⟨x1, x2⟩, ⟨y3, y4, y5, y6⟩, hq'⟩ | ⟨_, hq'⟩
  case' inr =>
    cases hq'
    refine mj_T.if0 (a := 0) rfl ⟨by decide, by decide⟩ (fun hc => ?_) (fun hc => ?_)
    · simp [jc] at hc
    iterate 2 refine mj_T.pl rfl rfl rfl rfl ?_
    refine mj_T.call (ins := .invokevirtual 198) rfl rfl (Nat.le_of_ble_eq_true rfl) (Nat.le_of_ble_eq_true rfl) (by simp [mj_recv, rS_f hs1]) rfl (mj_Ok.up (by decide) (rp_fails (D := 0) (c := 1) hs1)) (fun v' g2 hq' => ?_) (fun i h' hq' => by obtain ⟨_, _, h⟩ := hq'; cases h)
    obtain ⟨_, hs2, hq'⟩ := hq'
    cases hq'
    exact mj_T.ret rfl rfl rfl ⟨0, g2, ⟨by decide, by decide⟩, rfl, ⟨_, N, B, X, V, hs2, K1.put ⟨by decide, by decide⟩ (by decide) (by decide) (by decide) (by decide) (by decide)⟩⟩
  cases hq'
  refine mj_T.if0 (a := 1) rfl ⟨by decide, by decide⟩ (fun hc => ?_) (fun hc => ?_)
  rotate_left
  · simp [jc] at hc
  obtain ⟨x, rfl⟩ := Int.eq_ofNat_of_zero_le x1
  obtain ⟨y, rfl⟩ := Int.eq_ofNat_of_zero_le y3
  refine mj_T.pl rfl rfl rfl rfl ?_
  refine mj_T.call (ins := .invokestatic 240) rfl rfl (Nat.le_of_ble_eq_true rfl) (Nat.le_of_ble_eq_true rfl) rfl rfl (mj_Ok.up (by decide) (rp_isPrime hz)) (fun v' h' hq' => ?_) (fun i h' hq' => by rcases hq' with ⟨_, _, h⟩ | ⟨_, h⟩ <;> cases h)
  rcases hq' with ⟨z1, z2, hq'⟩ | ⟨_, hq'⟩
  case' inr =>
    cases hq'
    refine mj_T.if0 (a := 0) rfl ⟨by decide, by decide⟩ (fun hc => ?_) (fun hc => ?_)
    · simp [jc] at hc
    iterate 2 refine mj_T.pl rfl rfl rfl rfl ?_
    refine mj_T.call (ins := .invokevirtual 198) rfl rfl (Nat.le_of_ble_eq_true rfl) (Nat.le_of_ble_eq_true rfl) (by simp [mj_recv, rS_f hs1]) rfl (mj_Ok.up (by decide) (rp_fails (D := 0) (c := 2) hs1)) (fun v' g3 hq' => ?_) (fun i h' hq' => by obtain ⟨_, _, h⟩ := hq'; cases h)
    obtain ⟨_, hs3, hq'⟩ := hq'
    cases hq'
    exact mj_T.ret rfl rfl rfl ⟨0, g3, ⟨by decide, by decide⟩, rfl, ⟨_, N, B, X, V, hs3, K1.put ⟨by decide, by decide⟩ (by decide) (by decide) (by decide) (by decide) (by decide)⟩⟩
  cases hq'
  refine mj_T.if0 (a := 1) rfl ⟨by decide, by decide⟩ (fun hc => ?_) (fun hc => ?_)
  rotate_left
  · simp [jc] at hc
  obtain ⟨z, rfl⟩ := Int.eq_ofNat_of_zero_le (show 0 ≤ z by omega)
  refine mj_T.pl rfl rfl rfl rfl ?_
  refine mj_T.call (ins := .invokevirtual 201) rfl rfl (Nat.le_of_ble_eq_true rfl) (Nat.le_of_ble_eq_true rfl) (by simp [mj_recv, rS_f hs1]) rfl (mj_Ok.up (by decide) (rp_keeps (D := 0) K1 hs1)) (fun v' g4 hq' => ?_) (fun i h' hq' => by obtain ⟨_, _, _, _, _, _, h⟩ := hq'; cases h)
  obtain ⟨S4, B4, _, hs4, K4, _, hq'⟩ := hq'
  cases hq'
  iterate 2 refine mj_T.pl rfl rfl rfl rfl ?_
  exact rp_res_loop (by omega) (by omega) (by omega) (by omega) 13 0 _ _ (by omega) hs4 K4
theorem rp_setTerm {x y : Int} (hx : jr x) (hy : jr y) {z : Int} (hz : jR z) (hI : jI tm er T h) : mj_Ok 40 244 [.ref 0, .int (jn x), .int (jn y), .long (jl z)] h (rI tm er T) := by
  refine mj_Ok.of (M := mj_m244) rfl rfl rfl ?_
  obtain ⟨S, N, B, X, V, hs, K⟩ := hI
  iterate 2 refine mj_T.pl rfl rfl rfl rfl ?_
  refine rT_put (v := 0) hs rfl rfl (by decide) rfl (fun g5 hs5 => ?_)
  have K5 := K.put (k := 3) (v := 0) ⟨by decide, by decide⟩ (by decide) (by decide) (by decide) (by decide) (by decide)
  generalize jvu S 3 0 = S5 at hs5 K5
  refine mj_T.pl rfl rfl rfl rfl ?_
  refine mj_T.call (ins := .invokestatic 181) rfl rfl (Nat.le_of_ble_eq_true rfl) (Nat.le_of_ble_eq_true rfl) rfl rfl (mj_Ok.up (by decide) (rp_isRegister (D := 0) hx)) (fun v' h' hq' => ?_) (fun i h' hq' => by rcases hq' with ⟨_, _, h⟩ | ⟨_, h⟩ <;> cases h)
  rcases hq' with ⟨x1, x2, hq'⟩ | ⟨_, hq'⟩
  case' inr =>
    cases hq'
    refine mj_T.if0 (a := 0) rfl ⟨by decide, by decide⟩ (fun hc => ?_) (fun hc => ?_)
    · simp [jc] at hc
    iterate 2 refine mj_T.pl rfl rfl rfl rfl ?_
    refine mj_T.call (ins := .invokevirtual 198) rfl rfl (Nat.le_of_ble_eq_true rfl) (Nat.le_of_ble_eq_true rfl) (by simp [mj_recv, rS_f hs5]) rfl (mj_Ok.up (by decide) (rp_fails (D := 0) (c := 1) hs5)) (fun v' g6 hq' => ?_) (fun i h' hq' => by obtain ⟨_, _, h⟩ := hq'; cases h)
    obtain ⟨_, hs6, hq'⟩ := hq'
    cases hq'
    exact mj_T.ret rfl rfl rfl ⟨0, g6, ⟨by decide, by decide⟩, rfl, ⟨_, N, B, X, V, hs6, K5.put ⟨by decide, by decide⟩ (by decide) (by decide) (by decide) (by decide) (by decide)⟩⟩
  cases hq'
  refine mj_T.if0 (a := 1) rfl ⟨by decide, by decide⟩ (fun hc => ?_) (fun hc => ?_)
  rotate_left
  · simp [jc] at hc
  obtain ⟨x, rfl⟩ := Int.eq_ofNat_of_zero_le x1
  refine mj_T.pl rfl rfl rfl rfl ?_
  refine mj_T.i2l rfl hy ?_
  iterate 2 refine mj_T.pl rfl rfl rfl rfl ?_
  refine mj_T.call (ins := .invokestatic 177) rfl rfl (Nat.le_of_ble_eq_true rfl) (Nat.le_of_ble_eq_true rfl) rfl rfl (mj_Ok.up (by decide) (rp_in (D := 0) (v := y) (lo := 0) (hi := 12) ⟨by have := hy.1; omega, by have := hy.2; omega⟩ ⟨by decide, by decide⟩ ⟨by decide, by decide⟩)) (fun v' h' hq' => ?_) (fun i h' hq' => by rcases hq' with ⟨_, _, h⟩ | ⟨_, h⟩ <;> cases h)
  rcases hq' with ⟨r7a, r7b, hq'⟩ | ⟨_, hq'⟩
  case' inr =>
    cases hq'
    refine mj_T.if0 (a := 0) rfl ⟨by decide, by decide⟩ (fun hc => ?_) (fun hc => ?_)
    · simp [jc] at hc
    iterate 2 refine mj_T.pl rfl rfl rfl rfl ?_
    refine mj_T.call (ins := .invokevirtual 198) rfl rfl (Nat.le_of_ble_eq_true rfl) (Nat.le_of_ble_eq_true rfl) (by simp [mj_recv, rS_f hs5]) rfl (mj_Ok.up (by decide) (rp_fails (D := 0) (c := 2) hs5)) (fun v' g8 hq' => ?_) (fun i h' hq' => by obtain ⟨_, _, h⟩ := hq'; cases h)
    obtain ⟨_, hs8, hq'⟩ := hq'
    cases hq'
    exact mj_T.ret rfl rfl rfl ⟨0, g8, ⟨by decide, by decide⟩, rfl, ⟨_, N, B, X, V, hs8, K5.put ⟨by decide, by decide⟩ (by decide) (by decide) (by decide) (by decide) (by decide)⟩⟩
  cases hq'
  refine mj_T.if0 (a := 1) rfl ⟨by decide, by decide⟩ (fun hc => ?_) (fun hc => ?_)
  rotate_left
  · simp [jc] at hc
  obtain ⟨y, rfl⟩ := Int.eq_ofNat_of_zero_le r7a
  refine mj_T.pl rfl rfl rfl rfl ?_
  iterate 2 refine mj_T.pl rfl rfl rfl rfl ?_
  refine mj_T.call (ins := .invokestatic 177) rfl rfl (Nat.le_of_ble_eq_true rfl) (Nat.le_of_ble_eq_true rfl) rfl rfl (mj_Ok.up (by decide) (rp_in (D := 0) (v := z) (lo := -999999999999999999) (hi := 999999999999999999) hz ⟨by decide, by decide⟩ ⟨by decide, by decide⟩)) (fun v' h' hq' => ?_) (fun i h' hq' => by rcases hq' with ⟨_, _, h⟩ | ⟨_, h⟩ <;> cases h)
  rcases hq' with ⟨r9a, r9b, hq'⟩ | ⟨_, hq'⟩
  case' inr =>
    cases hq'
    refine mj_T.if0 (a := 0) rfl ⟨by decide, by decide⟩ (fun hc => ?_) (fun hc => ?_)
    · simp [jc] at hc
    iterate 2 refine mj_T.pl rfl rfl rfl rfl ?_
    refine mj_T.call (ins := .invokevirtual 198) rfl rfl (Nat.le_of_ble_eq_true rfl) (Nat.le_of_ble_eq_true rfl) (by simp [mj_recv, rS_f hs5]) rfl (mj_Ok.up (by decide) (rp_fails (D := 0) (c := 3) hs5)) (fun v' g10 hq' => ?_) (fun i h' hq' => by obtain ⟨_, _, h⟩ := hq'; cases h)
    obtain ⟨_, hs10, hq'⟩ := hq'
    cases hq'
    exact mj_T.ret rfl rfl rfl ⟨0, g10, ⟨by decide, by decide⟩, rfl, ⟨_, N, B, X, V, hs10, K5.put ⟨by decide, by decide⟩ (by decide) (by decide) (by decide) (by decide) (by decide)⟩⟩
  cases hq'
  refine mj_T.if0 (a := 1) rfl ⟨by decide, by decide⟩ (fun hc => ?_) (fun hc => ?_)
  rotate_left
  · simp [jc] at hc
  refine mj_T.pl rfl rfl rfl rfl ?_
  refine mj_T.call (ins := .invokevirtual 201) rfl rfl (Nat.le_of_ble_eq_true rfl) (Nat.le_of_ble_eq_true rfl) (by simp [mj_recv, rS_f hs5]) rfl (mj_Ok.up (by decide) (rp_keeps (D := 0) K5 hs5)) (fun v' g11 hq' => ?_) (fun i h' hq' => by obtain ⟨_, _, _, _, _, _, h⟩ := hq'; cases h)
  obtain ⟨S11, B11, _, hs11, K11, _, hq'⟩ := hq'
  cases hq'
  refine mj_T.pl rfl rfl rfl rfl ?_
  refine rT_get hs11 rfl rfl ?_
  iterate 2 refine mj_T.pl rfl rfl rfl rfl ?_
  refine mj_T.imul (a := (x : Int)) (b := 13) rfl ?_
  refine mj_T.pl rfl rfl rfl rfl ?_
  refine mj_T.iadd rfl ?_
  rw [show (x : Int) * 13 + (y : Int) = ((x * 13 + y : Nat) : Int) by omega]
  refine mj_T.pl rfl rfl rfl rfl ?_
  refine rT_stN hs11 rfl ⟨by omega, by omega⟩ (fun g12 hs12 => ?_)
  rw [Int.toNat_natCast] at hs12
  have K12 := K11.row (gN_put (j := x * 13 + y) (z := z) K11.1 (by omega) ⟨by omega, by omega⟩)
  generalize jvu N (x * 13 + y) z = N12 at hs12 K12
  have hd := jdg_le N12 x 13
  iterate 2 refine mj_T.pl rfl rfl rfl rfl ?_
  refine mj_T.call (ins := .invokevirtual 185) rfl rfl (Nat.le_of_ble_eq_true rfl) (Nat.le_of_ble_eq_true rfl) (by simp [mj_recv, rS_f hs12]) rfl (mj_Ok.up (by decide) (rp_degreeIn (D := 0) (r := x) (by omega) K12.nR hs12)) (fun v' h' hq' => ?_) (fun i h' hq' => by cases hq')
  cases hq'
  exact mj_T.ret rfl rfl rfl ⟨_, g12, ⟨by omega, by omega⟩, rfl, ⟨S11, N12, B11, X, V, hs12, K12⟩⟩
theorem rp_clearPoints  (hI : jI tm er T h) : mj_Ok 40 247 [.ref 0] h (rI tm er T) := by
  refine mj_Ok.of (M := mj_m247) rfl rfl rfl ?_
  obtain ⟨S, N, B, X, V, hs, K⟩ := hI
  iterate 2 refine mj_T.pl rfl rfl rfl rfl ?_
  refine rT_put (v := 0) hs rfl rfl (by decide) rfl (fun g13 hs13 => ?_)
  have K13 := K.put (k := 3) (v := 0) ⟨by decide, by decide⟩ (by decide) (by decide) (by decide) (by decide) (by decide)
  generalize jvu S 3 0 = S13 at hs13 K13
  refine mj_T.pl rfl rfl rfl rfl ?_
  refine mj_T.call (ins := .invokevirtual 201) rfl rfl (Nat.le_of_ble_eq_true rfl) (Nat.le_of_ble_eq_true rfl) (by simp [mj_recv, rS_f hs13]) rfl (mj_Ok.up (by decide) (rp_keeps (D := 0) K13 hs13)) (fun v' g14 hq' => ?_) (fun i h' hq' => by obtain ⟨_, _, _, _, _, _, h⟩ := hq'; cases h)
  obtain ⟨S14, B14, _, hs14, K14, _, hq'⟩ := hq'
  cases hq'
  refine mj_T.pl rfl rfl rfl rfl ?_
  refine rT_get hs14 rfl rfl ?_
  refine mj_T.pl rfl rfl rfl rfl ?_
  refine rT_ldN (i := ((78 : Nat) : Int)) hs14 rfl ⟨by decide, by decide⟩ ?_
  rw [Int.toNat_natCast]
  refine mj_T.l2i rfl ?_
  iterate 2 refine mj_T.pl rfl rfl rfl rfl ?_
  refine rT_get hs14 rfl rfl ?_
  iterate 2 refine mj_T.pl rfl rfl rfl rfl ?_
  refine rT_stN (i := ((78 : Nat) : Int)) (z := 0) hs14 rfl ⟨by decide, by decide⟩ (fun g15 hs15 => ?_)
  rw [Int.toNat_natCast] at hs15
  have hg := K14.1
  obtain ⟨q1, q2, q3, q4⟩ := hg
  have K15 := K14.row (N' := jvu N 78 0) ⟨fun j hj => by rw [jvu_ne _ _ _ (by omega)]; exact q1 j hj, by rw [jvu_at]; decide, fun k hk => by rw [jvu_ne _ _ _ (by omega), jvu_ne _ _ _ (by omega)]; exact q3 k hk, fun i j hij hj => by rw [jvu_at] at hj; omega⟩
  refine mj_T.pl rfl rfl rfl rfl ?_
  exact mj_T.ret rfl rfl rfl ⟨_, g15, ⟨by omega, by omega⟩, rfl, ⟨S14, _, B14, X, V, hs15, K15⟩⟩
theorem rp_undo  (hI : jI tm er T h) : mj_Ok 40 252 [.ref 0] h (rI tm er T) := by
  refine mj_Ok.of (M := mj_m252) rfl rfl rfl ?_
  obtain ⟨S, N, B, X, V, hs, K⟩ := hI
  iterate 2 refine mj_T.pl rfl rfl rfl rfl ?_
  refine rT_put (v := 0) hs rfl rfl (by decide) rfl (fun g16 hs16 => ?_)
  have K16 := K.put (k := 3) (v := 0) ⟨by decide, by decide⟩ (by decide) (by decide) (by decide) (by decide) (by decide)
  generalize jvu S 3 0 = S16 at hs16 K16
  obtain ⟨k1, k2, k3, k4, k5, k6, k7, k8, k9⟩ := K16
  refine mj_T.pl rfl rfl rfl rfl ?_
  refine rT_get hs16 rfl rfl ?_
  refine mj_T.if0 (a := S16 2) rfl ⟨by omega, by omega⟩ (fun hc => ?_) (fun hc => ?_)
  rotate_left
  · refine mj_T.pl rfl rfl rfl rfl ?_
    exact mj_T.ret rfl rfl rfl ⟨-1, _, ⟨by decide, by decide⟩, rfl, ⟨_, _, _, _, _, hs16, ⟨k1, k2, k3, k4, k5, k6, k7, k8, k9⟩⟩⟩
  simp only [jc, Bool.not_eq_true', decide_eq_false_iff_not] at hc
  obtain ⟨c, hc2⟩ : ∃ c : Nat, S16 2 = ((c + 1 : Nat) : Int) := ⟨(S16 2).toNat - 1, by omega⟩
  iterate 2 refine mj_T.pl rfl rfl rfl rfl ?_
  refine rT_get hs16 rfl rfl ?_
  refine mj_T.pl rfl rfl rfl rfl ?_
  refine mj_T.isub (a := S16 2) (b := 1) rfl ?_
  rw [hc2, show ((c + 1 : Nat) : Int) - 1 = (c : Int) by omega]
  refine rT_put (v := (c : Int)) hs16 rfl rfl (by decide) rfl (fun g17 hs17 => ?_)
  have e : ∀ x, x ≠ 2 → jvu S16 2 (c : Int) x = S16 x := fun x hx => jvu_ne _ _ _ hx
  have e2 : jvu S16 2 (c : Int) 2 = (c : Int) := jvu_at _ _ _
  generalize jvu S16 2 (c : Int) = S17 at hs17 e e2
  refine mj_T.pl rfl rfl rfl rfl ?_
  refine rT_get hs17 rfl rfl ?_
  refine mj_T.pl rfl rfl rfl rfl ?_
  refine rT_get (v := .int (jn (c : Int))) hs17 rfl (by rw [← e2]; rfl) ?_
  refine mj_T.pl rfl rfl rfl rfl ?_
  refine mj_T.imul (a := (c : Int)) (b := 91) rfl ?_
  rw [show (c : Int) * 91 = ((c * 91 : Nat) : Int) by omega]
  refine mj_T.pl rfl rfl rfl rfl ?_
  refine rT_get hs17 rfl rfl ?_
  iterate 2 refine mj_T.pl rfl rfl rfl rfl ?_
  refine rT_cpy (s := c * 91) (d := 0) (m := 91) (f := B) (g := N) rfl rfl (rS_B hs17) (rS_N hs17) (by omega) (by decide) ⟨by omega, by decide, by decide⟩ (Nat.le_of_ble_eq_true rfl) ?_
  have hs18 := rS_setN (va_cpy B N (c * 91) 0 91) hs17
  generalize g17.set 1 _ = g18 at hs18
  refine mj_T.pl rfl rfl rfl rfl ?_
  refine rT_get (v := .int (jn (c : Int))) hs18 rfl (by rw [← e2]; rfl) ?_
  refine mj_T.ret rfl rfl rfl ⟨(c : Int), _, ⟨by omega, by omega⟩, rfl, ⟨_, _, _, _, _, hs18, ⟨?_, by omega, fun k hk => k3 k (by omega), by rw [e 9 (by decide)]; exact k4, by rw [e 12 (by decide)]; exact k5, by rw [e 15 (by decide)]; exact k6, fun x => ?_, by rw [e 13 (by decide)]; exact k8, k9⟩⟩⟩
  · refine gN_congr (fun j hj => ?_) (k3 c (by omega))
    show va_cpy B N (c * 91) 0 91 j = B (c * 91 + j)
    unfold va_cpy
    rw [if_pos (by omega), show c * 91 + (j - 0) = c * 91 + j by omega]
  · by_cases q : x = 2
    · subst q
      rw [e2]
      exact ⟨by omega, by omega⟩
    · rw [e x q]
      exact k7 x
end RPU
/-! Calls of the reference: points, degrees, terms, coefficients, contents, values, divisibility. -/
theorem rp_fitv : 13 * (10 ^ 18 * 1000 ^ 12) < jB ^ 698 := by decide +kernel
theorem rp_fitv2 : 1000 ^ 12 < jB ^ 698 := by decide +kernel
theorem gN_point {N : Nat → Int} {n : Nat} {x y : Int} (g : gN N) (hn : N 78 = (n : Int)) (h6 : n < 6) (hx : -9 ≤ x ∧ x ≤ 9) (hy : -999 ≤ y ∧ y ≤ 999) (hne : ∀ k, k < n → N (79 + k) ≠ x) : gN (jvu (jvu (jvu N (79 + n) x) (85 + n) y) 78 ((n + 1 : Nat) : Int)) := by
  obtain ⟨g1, g2, g3, g4⟩ := g
  have e : ∀ j, j ≠ 79 + n → j ≠ 85 + n → j ≠ 78 → jvu (jvu (jvu N (79 + n) x) (85 + n) y) 78 ((n + 1 : Nat) : Int) j = N j := fun j h1 h2 h3 => by rw [jvu_ne _ _ _ h3, jvu_ne _ _ _ h2, jvu_ne _ _ _ h1]
  have e1 : jvu (jvu (jvu N (79 + n) x) (85 + n) y) 78 ((n + 1 : Nat) : Int) (79 + n) = x := by rw [jvu_ne _ _ _ (by omega), jvu_ne _ _ _ (by omega), jvu_at]
  have e2 : jvu (jvu (jvu N (79 + n) x) (85 + n) y) 78 ((n + 1 : Nat) : Int) (85 + n) = y := by rw [jvu_ne _ _ _ (by omega), jvu_at]
  have e3 : jvu (jvu (jvu N (79 + n) x) (85 + n) y) 78 ((n + 1 : Nat) : Int) 78 = ((n + 1 : Nat) : Int) := jvu_at _ _ _
  refine ⟨fun j hj => by rw [e j (by omega) (by omega) (by omega)]; exact g1 j hj, by rw [e3]; omega, fun k hk => ⟨?_, ?_⟩, fun i j hij hj => ?_⟩
  · by_cases q : k = n
    · subst q
      rw [e1]
      exact hx
    · rw [e _ (by omega) (by omega) (by omega)]
      exact (g3 k hk).1
  · by_cases q : k = n
    · subst q
      rw [e2]
      exact hy
    · rw [e _ (by omega) (by omega) (by omega)]
      exact (g3 k hk).2
  · rw [e3] at hj
    rw [e _ (by omega) (by omega) (by omega)]
    by_cases q : j = n
    · subst q
      rw [e1]
      exact hne i hij
    · rw [e _ (by omega) (by omega) (by omega)]
      exact g4 i j hij (by omega)
/-- how many coefficients are not 0 -/
def rtm (N : Nat → Int) (r : Nat) : Nat → Nat
  | 0 => 0
  | k + 1 => if N (r * 13 + k) = 0 then rtm N r k else rtm N r k + 1
theorem rtm_le (N : Nat → Int) (r : Nat) : ∀ k, rtm N r k ≤ k
  | 0 => Nat.le_refl _
  | k + 1 => by have := rtm_le N r k; unfold rtm; split <;> omega
section RPU
variable {h : mj_H} {tm er : Int} {T : Nat → Int}
theorem rp_pt_loop {S N B X V : Nat → Int} {x y : Int} (hx : -9 ≤ x ∧ x ≤ 9) (hy : -999 ≤ y ∧ y ≤ 999) {n : Nat} (hn : N 78 = (n : Int)) (hn6 : n ≤ 6) (hs : rS S N B T X V h) (K : jK tm er S N B T) :
    ∀ (m k : Nat) (b : Int), k + m = n → (b = 0 ∨ b = 1) → (b = 0 → n ≠ 6 ∧ ∀ j, j < k → N (79 + j) ≠ x) → mj_T 39 mj_m246 62 [some (.ref 0), some (.int (jn x)), some (.int (jn y)), some (.int (jn b)), some (.int (jn (k : Int)))] [] h (rI tm er T) := by
  intro m
  induction m with
  | zero =>
    intro k b hk hb hinv
    have hk : k = n := by omega
    subst hk
    refine mj_T.pl rfl rfl rfl rfl ?_
    refine mj_T.i2l rfl ⟨by omega, by omega⟩ ?_
    refine mj_T.pl rfl rfl rfl rfl ?_
    refine rT_get hs rfl rfl ?_
    refine mj_T.pl rfl rfl rfl rfl ?_
    refine rT_ldN (i := ((78 : Nat) : Int)) hs rfl ⟨by decide, by decide⟩ ?_
    rw [Int.toNat_natCast, hn]
    refine mj_T.lif (a := (k : Int)) (b := (k : Int)) rfl rfl ⟨by omega, by omega⟩ ⟨by omega, by omega⟩ (fun hc => ?_) (fun hc => ?_)
    · refine mj_T.pl rfl rfl rfl rfl ?_
      refine mj_T.if0 (a := b) rfl ⟨by omega, by omega⟩ (fun hc2 => ?_) (fun hc2 => ?_)
      · simp only [jc, decide_eq_true_eq] at hc2
        obtain ⟨i1, i2⟩ := hinv hc2
        refine mj_T.pl rfl rfl rfl rfl ?_
        refine mj_T.call (ins := .invokevirtual 201) rfl rfl (Nat.le_of_ble_eq_true rfl) (Nat.le_of_ble_eq_true rfl) (by simp [mj_recv, rS_f hs]) rfl (mj_Ok.up (by decide) (rp_keeps (D := 0) K hs)) (fun v' g1 hq' => ?_) (fun i h' hq' => by obtain ⟨_, _, _, _, _, _, h⟩ := hq'; cases h)
        obtain ⟨S1, B1, _, hs1, K1, _, hq'⟩ := hq'
        cases hq'
        refine mj_T.pl rfl rfl rfl rfl ?_
        refine rT_get hs1 rfl rfl ?_
        iterate 2 refine mj_T.pl rfl rfl rfl rfl ?_
        refine rT_get hs1 rfl rfl ?_
        refine mj_T.pl rfl rfl rfl rfl ?_
        refine rT_ldN (i := ((78 : Nat) : Int)) hs1 rfl ⟨by decide, by decide⟩ ?_
        rw [Int.toNat_natCast, hn]
        refine mj_T.l2i rfl ?_
        refine mj_T.iadd (a := 79) (b := (k : Int)) rfl ?_
        rw [show (79 : Int) + (k : Int) = ((79 + k : Nat) : Int) by omega]
        refine mj_T.pl rfl rfl rfl rfl ?_
        refine mj_T.i2l rfl ⟨by omega, by omega⟩ ?_
        refine rT_stN (z := x) hs1 rfl ⟨by omega, by omega⟩ (fun g2 hs2 => ?_)
        rw [Int.toNat_natCast] at hs2
        refine mj_T.pl rfl rfl rfl rfl ?_
        refine rT_get hs2 rfl rfl ?_
        iterate 2 refine mj_T.pl rfl rfl rfl rfl ?_
        refine rT_get hs2 rfl rfl ?_
        refine mj_T.pl rfl rfl rfl rfl ?_
        refine rT_ldN (i := ((78 : Nat) : Int)) hs2 rfl ⟨by decide, by decide⟩ ?_
        rw [Int.toNat_natCast, jvu_ne _ _ _ (by omega), hn]
        refine mj_T.l2i rfl ?_
        refine mj_T.iadd (a := 85) (b := (k : Int)) rfl ?_
        rw [show (85 : Int) + (k : Int) = ((85 + k : Nat) : Int) by omega]
        refine mj_T.pl rfl rfl rfl rfl ?_
        refine mj_T.i2l rfl ⟨by omega, by omega⟩ ?_
        refine rT_stN (z := y) hs2 rfl ⟨by omega, by omega⟩ (fun g3 hs3 => ?_)
        rw [Int.toNat_natCast] at hs3
        refine mj_T.pl rfl rfl rfl rfl ?_
        refine rT_get hs3 rfl rfl ?_
        iterate 2 refine mj_T.pl rfl rfl rfl rfl ?_
        refine rT_ldN (i := ((78 : Nat) : Int)) hs3 rfl ⟨by decide, by decide⟩ ?_
        rw [Int.toNat_natCast, jvu_ne _ _ _ (by omega), jvu_ne _ _ _ (by omega), hn]
        refine mj_T.pl rfl rfl rfl rfl ?_
        refine mj_T.ladd (a := (k : Int)) (b := 1) rfl ?_
        rw [show (k : Int) + 1 = ((k + 1 : Nat) : Int) by omega]
        refine rT_stN (i := ((78 : Nat) : Int)) (z := ((k + 1 : Nat) : Int)) hs3 rfl ⟨by decide, by decide⟩ (fun g4 hs4 => ?_)
        rw [Int.toNat_natCast] at hs4
        have K4 := K1.row (gN_point (n := k) K.1 hn (by omega) hx hy i2)
        refine mj_T.pl rfl rfl rfl rfl ?_
        refine rT_get hs4 rfl rfl ?_
        refine mj_T.pl rfl rfl rfl rfl ?_
        refine rT_ldN (i := ((78 : Nat) : Int)) hs4 rfl ⟨by decide, by decide⟩ ?_
        rw [Int.toNat_natCast, jvu_at]
        refine mj_T.l2i rfl ?_
        exact mj_T.ret rfl rfl rfl ⟨_, g4, ⟨by omega, by omega⟩, rfl, ⟨S1, _, B1, X, V, hs4, K4⟩⟩
      · skip
        iterate 2 refine mj_T.pl rfl rfl rfl rfl ?_
        refine mj_T.call (ins := .invokevirtual 198) rfl rfl (Nat.le_of_ble_eq_true rfl) (Nat.le_of_ble_eq_true rfl) (by simp [mj_recv, rS_f hs]) rfl (mj_Ok.up (by decide) (rp_fails (D := 0) (c := 2) hs)) (fun v' g5 hq' => ?_) (fun i h' hq' => by obtain ⟨_, _, h⟩ := hq'; cases h)
        obtain ⟨_, hs5, hq'⟩ := hq'
        cases hq'
        exact mj_T.ret rfl rfl rfl ⟨0, g5, ⟨by decide, by decide⟩, rfl, ⟨_, N, B, X, V, hs5, K.put ⟨by decide, by decide⟩ (by decide) (by decide) (by decide) (by decide) (by decide)⟩⟩
    · simp only [jc, decide_eq_false_iff_not] at hc
      omega
  | succ m ih =>
    intro k b hk hb hinv
    refine mj_T.pl rfl rfl rfl rfl ?_
    refine mj_T.i2l rfl ⟨by omega, by omega⟩ ?_
    refine mj_T.pl rfl rfl rfl rfl ?_
    refine rT_get hs rfl rfl ?_
    refine mj_T.pl rfl rfl rfl rfl ?_
    refine rT_ldN (i := ((78 : Nat) : Int)) hs rfl ⟨by decide, by decide⟩ ?_
    rw [Int.toNat_natCast, hn]
    refine mj_T.lif (a := (k : Int)) (b := (n : Int)) rfl rfl ⟨by omega, by omega⟩ ⟨by omega, by omega⟩ (fun hc => ?_) (fun hc => ?_)
    · simp only [jc, decide_eq_true_eq] at hc
      omega
    have t101 : ∀ b2 : Int, (b2 = 0 ∨ b2 = 1) → (b2 = 0 → n ≠ 6 ∧ ∀ j, j < k + 1 → N (79 + j) ≠ x) → mj_T 39 mj_m246 101 [some (.ref 0), some (.int (jn x)), some (.int (jn y)), some (.int (jn b)), some (.int (jn (k : Int)))] [.int (jn b2)] h (rI tm er T) := fun b2 hb2 hinv2 => by
      refine mj_T.pl rfl rfl rfl rfl ?_
      refine mj_T.iinc (a := (k : Int)) rfl rfl ?_
      refine mj_T.pl rfl rfl rfl rfl ?_
      exact ih (k + 1) b2 (by omega) hb2 hinv2
    refine mj_T.pl rfl rfl rfl rfl ?_
    refine mj_T.if0 (a := b) rfl ⟨by omega, by omega⟩ (fun hc2 => ?_) (fun hc2 => ?_)
    · iterate 2 refine mj_T.pl rfl rfl rfl rfl ?_
      exact t101 1 (Or.inr rfl) (fun e => absurd e (by decide))
    simp only [jc, Bool.not_eq_false', decide_eq_true_eq] at hc2
    obtain ⟨i1, i2⟩ := hinv hc2
    refine mj_T.pl rfl rfl rfl rfl ?_
    refine rT_get hs rfl rfl ?_
    iterate 2 refine mj_T.pl rfl rfl rfl rfl ?_
    refine mj_T.iadd (a := 79) (b := (k : Int)) rfl ?_
    rw [show (79 : Int) + (k : Int) = ((79 + k : Nat) : Int) by omega]
    refine rT_ldN hs rfl ⟨by omega, by omega⟩ ?_
    rw [Int.toNat_natCast]
    refine mj_T.pl rfl rfl rfl rfl ?_
    refine mj_T.i2l rfl ⟨by omega, by omega⟩ ?_
    have hp := (K.1.2.2.1 k (by omega)).1
    refine mj_T.lif (a := N (79 + k)) (b := x) rfl rfl ⟨by omega, by omega⟩ ⟨by omega, by omega⟩ (fun hc3 => ?_) (fun hc3 => ?_)
    · simp only [jc, Bool.not_eq_true', decide_eq_false_iff_not] at hc3
      refine mj_T.pl rfl rfl rfl rfl ?_
      refine t101 0 (Or.inl rfl) (fun _ => ⟨i1, fun j hj => ?_⟩)
      by_cases q : j = k
      · rw [q]
        exact hc3
      · exact i2 j (by omega)
    · iterate 2 refine mj_T.pl rfl rfl rfl rfl ?_
      exact t101 1 (Or.inr rfl) (fun e => absurd e (by decide))
theorem rp_addPoint {x y : Int} (hx : jr x) (hy : jr y) (hI : jI tm er T h) : mj_Ok 40 246 [.ref 0, .int (jn x), .int (jn y)] h (rI tm er T) := by
  refine mj_Ok.of (M := mj_m246) rfl rfl rfl ?_
  obtain ⟨S, N, B, X, V, hs, K⟩ := hI
  iterate 2 refine mj_T.pl rfl rfl rfl rfl ?_
  refine rT_put (v := 0) hs rfl rfl (by decide) rfl (fun g6 hs6 => ?_)
  have K6 := K.put (k := 3) (v := 0) ⟨by decide, by decide⟩ (by decide) (by decide) (by decide) (by decide) (by decide)
  generalize jvu S 3 0 = S6 at hs6 K6
  have t33 : mj_T 39 mj_m246 33 [some (.ref 0), some (.int (jn x)), some (.int (jn y)), none, none] [] g6 (rI tm er T) := by
    iterate 2 refine mj_T.pl rfl rfl rfl rfl ?_
    refine mj_T.call (ins := .invokevirtual 198) rfl rfl (Nat.le_of_ble_eq_true rfl) (Nat.le_of_ble_eq_true rfl) (by simp [mj_recv, rS_f hs6]) rfl (mj_Ok.up (by decide) (rp_fails (D := 0) (c := 1) hs6)) (fun v' g7 hq' => ?_) (fun i h' hq' => by obtain ⟨_, _, h⟩ := hq'; cases h)
    obtain ⟨_, hs7, hq'⟩ := hq'
    cases hq'
    exact mj_T.ret rfl rfl rfl ⟨0, g7, ⟨by decide, by decide⟩, rfl, ⟨_, N, B, X, V, hs7, K6.put ⟨by decide, by decide⟩ (by decide) (by decide) (by decide) (by decide) (by decide)⟩⟩
  refine mj_T.pl rfl rfl rfl rfl ?_
  refine mj_T.i2l rfl hx ?_
  iterate 2 refine mj_T.pl rfl rfl rfl rfl ?_
  refine mj_T.call (ins := .invokestatic 177) rfl rfl (Nat.le_of_ble_eq_true rfl) (Nat.le_of_ble_eq_true rfl) rfl rfl (mj_Ok.up (by decide) (rp_in (D := 0) (v := x) (lo := -9) (hi := 9) ⟨by have := hx.1; omega, by have := hx.2; omega⟩ ⟨by decide, by decide⟩ ⟨by decide, by decide⟩)) (fun v' h' hq' => ?_) (fun i h' hq' => by rcases hq' with ⟨_, _, h⟩ | ⟨_, h⟩ <;> cases h)
  rcases hq' with ⟨xa, xb, hq'⟩ | ⟨_, hq'⟩
  case' inr =>
    cases hq'
    refine mj_T.if0 (a := 0) rfl ⟨by decide, by decide⟩ (fun hc => ?_) (fun hc => ?_)
    · exact t33
    · simp [jc] at hc
  cases hq'
  refine mj_T.if0 (a := 1) rfl ⟨by decide, by decide⟩ (fun hc => ?_) (fun hc => ?_)
  · simp [jc] at hc
  refine mj_T.pl rfl rfl rfl rfl ?_
  refine mj_T.i2l rfl hy ?_
  iterate 2 refine mj_T.pl rfl rfl rfl rfl ?_
  refine mj_T.call (ins := .invokestatic 177) rfl rfl (Nat.le_of_ble_eq_true rfl) (Nat.le_of_ble_eq_true rfl) rfl rfl (mj_Ok.up (by decide) (rp_in (D := 0) (v := y) (lo := -999) (hi := 999) ⟨by have := hy.1; omega, by have := hy.2; omega⟩ ⟨by decide, by decide⟩ ⟨by decide, by decide⟩)) (fun v' h' hq' => ?_) (fun i h' hq' => by rcases hq' with ⟨_, _, h⟩ | ⟨_, h⟩ <;> cases h)
  rcases hq' with ⟨ya, yb, hq'⟩ | ⟨_, hq'⟩
  case' inr =>
    cases hq'
    refine mj_T.if0 (a := 0) rfl ⟨by decide, by decide⟩ (fun hc => ?_) (fun hc => ?_)
    · simp [jc] at hc
    · exact t33
  cases hq'
  refine mj_T.if0 (a := 1) rfl ⟨by decide, by decide⟩ (fun hc => ?_) (fun hc => ?_)
  rotate_left
  · simp [jc] at hc
  clear t33
  obtain ⟨n, hn⟩ := Int.eq_ofNat_of_zero_le K6.1.2.1.1
  have hn6 := K6.1.2.1.2
  refine mj_T.pl rfl rfl rfl rfl ?_
  refine rT_get hs6 rfl rfl ?_
  refine mj_T.pl rfl rfl rfl rfl ?_
  refine rT_ldN (i := ((78 : Nat) : Int)) hs6 rfl ⟨by decide, by decide⟩ ?_
  rw [Int.toNat_natCast]
  refine mj_T.pl rfl rfl rfl rfl ?_
  refine mj_T.lif (a := N 78) (b := 6) rfl rfl ⟨by omega, by omega⟩ ⟨by decide, by decide⟩ (fun hc => ?_) (fun hc => ?_)
  · simp only [jc, Bool.not_eq_true', decide_eq_false_iff_not] at hc
    iterate 4 refine mj_T.pl rfl rfl rfl rfl ?_
    exact rp_pt_loop ⟨xa, xb⟩ ⟨ya, yb⟩ hn (by omega) hs6 K6 n 0 0 (by omega) (Or.inl rfl) (fun _ => ⟨by omega, fun j hj => absurd hj (by omega)⟩)
  · iterate 5 refine mj_T.pl rfl rfl rfl rfl ?_
    exact rp_pt_loop ⟨xa, xb⟩ ⟨ya, yb⟩ hn (by omega) hs6 K6 n 0 1 (by omega) (Or.inr rfl) (fun e => absurd e (by decide))
theorem rp_tm_loop {S N B X V : Nat → Int} {D r : Nat} (hr : r ≤ 5) (hN : ∀ j, j < 78 → jR (N j)) (hs : rS S N B T X V h) {Q : mj_R → Prop} (hend : Q (.inl (some (.int (jn (rtm N r 13 : Nat)))), h)) :
    ∀ (m k : Nat), k + m = 13 → mj_T D mj_m254 4 [some (.ref 0), some (.int (jn (r : Nat))), some (.int (jn (rtm N r k : Nat))), some (.int (jn (k : Nat)))] [] h Q := by
  intro m
  induction m with
  | zero =>
    intro k hk
    have hk : k = 13 := by omega
    subst hk
    iterate 2 refine mj_T.pl rfl rfl rfl rfl ?_
    refine mj_T.icmp (a := ((13 : Nat) : Int)) (b := 13) rfl ⟨by decide, by decide⟩ ⟨by decide, by decide⟩ (fun hc => ?_) (fun hc => ?_)
    · refine mj_T.pl rfl rfl rfl rfl ?_
      exact mj_T.ret rfl rfl rfl hend
    · simp [jc] at hc
  | succ m ih =>
    intro k hk
    iterate 2 refine mj_T.pl rfl rfl rfl rfl ?_
    refine mj_T.icmp (a := (k : Int)) (b := 13) rfl ⟨by omega, by omega⟩ ⟨by decide, by decide⟩ (fun hc => ?_) (fun hc => ?_)
    · simp only [jc, decide_eq_true_eq] at hc
      omega
    refine mj_T.pl rfl rfl rfl rfl ?_
    refine mj_T.pl rfl rfl rfl rfl ?_
    refine rT_get hs rfl rfl ?_
    iterate 2 refine mj_T.pl rfl rfl rfl rfl ?_
    refine mj_T.imul (a := (r : Int)) (b := 13) rfl ?_
    refine mj_T.pl rfl rfl rfl rfl ?_
    refine mj_T.iadd rfl ?_
    rw [show (r : Int) * 13 + (k : Int) = ((r * 13 + k : Nat) : Int) by omega]
    refine rT_ldN hs rfl ⟨by omega, by omega⟩ ?_
    rw [Int.toNat_natCast]
    refine mj_T.pl rfl rfl rfl rfl ?_
    refine mj_T.lif (a := N (r * 13 + k)) (b := 0) rfl rfl (hN _ (by omega)) ⟨by decide, by decide⟩ (fun hc2 => ?_) (fun hc2 => ?_)
    · simp only [jc, decide_eq_true_eq] at hc2
      refine mj_T.pl rfl rfl rfl rfl ?_
      refine mj_T.iadd (a := ((rtm N r k : Nat) : Int)) (b := 0) rfl ?_
      refine mj_T.pl rfl rfl rfl rfl ?_
      refine mj_T.iinc (a := (k : Int)) rfl rfl ?_
      refine mj_T.pl rfl rfl rfl rfl ?_
      have e : ((rtm N r k : Nat) : Int) + 0 = ((rtm N r (k + 1) : Nat) : Int) := by
        rw [show rtm N r (k + 1) = rtm N r k from if_pos hc2]
        omega
      rw [e]
      exact ih (k + 1) (by omega)
    · simp only [jc, decide_eq_false_iff_not] at hc2
      iterate 2 refine mj_T.pl rfl rfl rfl rfl ?_
      refine mj_T.iadd (a := ((rtm N r k : Nat) : Int)) (b := 1) rfl ?_
      refine mj_T.pl rfl rfl rfl rfl ?_
      refine mj_T.iinc (a := (k : Int)) rfl rfl ?_
      refine mj_T.pl rfl rfl rfl rfl ?_
      have e : ((rtm N r k : Nat) : Int) + 1 = ((rtm N r (k + 1) : Nat) : Int) := by
        rw [show rtm N r (k + 1) = rtm N r k + 1 from if_neg hc2]
        omega
      rw [e]
      exact ih (k + 1) (by omega)
theorem rp_termsOf {S N B X V : Nat → Int} {D r : Nat} (hr : r ≤ 5) (hN : ∀ j, j < 78 → jR (N j)) (hs : rS S N B T X V h) : mj_Ok (D + 1) 254 [.ref 0, .int (jn (r : Nat))] h (fun z => z = (.inl (some (.int (jn (rtm N r 13 : Nat)))), h)) := by
  refine mj_Ok.of (M := mj_m254) rfl rfl rfl ?_
  iterate 4 refine mj_T.pl rfl rfl rfl rfl ?_
  exact rp_tm_loop (D := D) hr hN hs (Q := fun z => z = (.inl (some (.int (jn (rtm N r 13 : Nat)))), h)) rfl 13 0 (by omega)
theorem rp_degree {x : Int} (hx : jr x) (hI : jI tm er T h) : mj_Ok 40 253 [.ref 0, .int (jn x)] h (rI tm er T) := by
  refine mj_Ok.of (M := mj_m253) rfl rfl rfl ?_
  obtain ⟨S, N, B, X, V, hs, K⟩ := hI
  iterate 2 refine mj_T.pl rfl rfl rfl rfl ?_
  refine rT_put (v := 0) hs rfl rfl (by decide) rfl (fun g8 hs8 => ?_)
  have K8 := K.put (k := 3) (v := 0) ⟨by decide, by decide⟩ (by decide) (by decide) (by decide) (by decide) (by decide)
  generalize jvu S 3 0 = S8 at hs8 K8
  refine mj_T.pl rfl rfl rfl rfl ?_
  refine mj_T.call (ins := .invokestatic 181) rfl rfl (Nat.le_of_ble_eq_true rfl) (Nat.le_of_ble_eq_true rfl) rfl rfl (mj_Ok.up (by decide) (rp_isRegister (D := 0) hx)) (fun v' h' hq' => ?_) (fun i h' hq' => by rcases hq' with ⟨_, _, h⟩ | ⟨_, h⟩ <;> cases h)
  rcases hq' with ⟨x1, x2, hq'⟩ | ⟨_, hq'⟩
  case' inr =>
    cases hq'
    refine mj_T.if0 (a := 0) rfl ⟨by decide, by decide⟩ (fun hc => ?_) (fun hc => ?_)
    rotate_left
    · simp [jc] at hc
    iterate 2 refine mj_T.pl rfl rfl rfl rfl ?_
    refine mj_T.call (ins := .invokevirtual 198) rfl rfl (Nat.le_of_ble_eq_true rfl) (Nat.le_of_ble_eq_true rfl) (by simp [mj_recv, rS_f hs8]) rfl (mj_Ok.up (by decide) (rp_fails (D := 0) (c := 1) hs8)) (fun v' g9 hq' => ?_) (fun i h' hq' => by obtain ⟨_, _, h⟩ := hq'; cases h)
    obtain ⟨_, hs9, hq'⟩ := hq'
    cases hq'
    exact mj_T.ret rfl rfl rfl ⟨0, g9, ⟨by decide, by decide⟩, rfl, ⟨_, N, B, X, V, hs9, K8.put ⟨by decide, by decide⟩ (by decide) (by decide) (by decide) (by decide) (by decide)⟩⟩
  cases hq'
  refine mj_T.if0 (a := 1) rfl ⟨by decide, by decide⟩ (fun hc => ?_) (fun hc => ?_)
  · simp [jc] at hc
  obtain ⟨x, rfl⟩ := Int.eq_ofNat_of_zero_le x1
  have hd := jdg_le N x 13
  iterate 2 refine mj_T.pl rfl rfl rfl rfl ?_
  refine mj_T.call (ins := .invokevirtual 185) rfl rfl (Nat.le_of_ble_eq_true rfl) (Nat.le_of_ble_eq_true rfl) (by simp [mj_recv, rS_f hs8]) rfl (mj_Ok.up (by decide) (rp_degreeIn (D := 0) (r := x) (by omega) K8.nR hs8)) (fun v' h' hq' => ?_) (fun i h' hq' => by cases hq')
  cases hq'
  refine mj_T.pl rfl rfl rfl rfl ?_
  exact mj_T.ret rfl rfl rfl ⟨_, g8, ⟨by omega, by omega⟩, rfl, ⟨S8, N, B, X, V, hs8, K8⟩⟩
theorem rp_terms {x : Int} (hx : jr x) (hI : jI tm er T h) : mj_Ok 40 255 [.ref 0, .int (jn x)] h (rI tm er T) := by
  refine mj_Ok.of (M := mj_m255) rfl rfl rfl ?_
  obtain ⟨S, N, B, X, V, hs, K⟩ := hI
  iterate 2 refine mj_T.pl rfl rfl rfl rfl ?_
  refine rT_put (v := 0) hs rfl rfl (by decide) rfl (fun g10 hs10 => ?_)
  have K10 := K.put (k := 3) (v := 0) ⟨by decide, by decide⟩ (by decide) (by decide) (by decide) (by decide) (by decide)
  generalize jvu S 3 0 = S10 at hs10 K10
  refine mj_T.pl rfl rfl rfl rfl ?_
  refine mj_T.call (ins := .invokestatic 181) rfl rfl (Nat.le_of_ble_eq_true rfl) (Nat.le_of_ble_eq_true rfl) rfl rfl (mj_Ok.up (by decide) (rp_isRegister (D := 0) hx)) (fun v' h' hq' => ?_) (fun i h' hq' => by rcases hq' with ⟨_, _, h⟩ | ⟨_, h⟩ <;> cases h)
  rcases hq' with ⟨x1, x2, hq'⟩ | ⟨_, hq'⟩
  case' inr =>
    cases hq'
    refine mj_T.if0 (a := 0) rfl ⟨by decide, by decide⟩ (fun hc => ?_) (fun hc => ?_)
    rotate_left
    · simp [jc] at hc
    iterate 2 refine mj_T.pl rfl rfl rfl rfl ?_
    refine mj_T.call (ins := .invokevirtual 198) rfl rfl (Nat.le_of_ble_eq_true rfl) (Nat.le_of_ble_eq_true rfl) (by simp [mj_recv, rS_f hs10]) rfl (mj_Ok.up (by decide) (rp_fails (D := 0) (c := 1) hs10)) (fun v' g11 hq' => ?_) (fun i h' hq' => by obtain ⟨_, _, h⟩ := hq'; cases h)
    obtain ⟨_, hs11, hq'⟩ := hq'
    cases hq'
    exact mj_T.ret rfl rfl rfl ⟨0, g11, ⟨by decide, by decide⟩, rfl, ⟨_, N, B, X, V, hs11, K10.put ⟨by decide, by decide⟩ (by decide) (by decide) (by decide) (by decide) (by decide)⟩⟩
  cases hq'
  refine mj_T.if0 (a := 1) rfl ⟨by decide, by decide⟩ (fun hc => ?_) (fun hc => ?_)
  · simp [jc] at hc
  obtain ⟨x, rfl⟩ := Int.eq_ofNat_of_zero_le x1
  have hd := rtm_le N x 13
  iterate 2 refine mj_T.pl rfl rfl rfl rfl ?_
  refine mj_T.call (ins := .invokevirtual 292) rfl rfl (Nat.le_of_ble_eq_true rfl) (Nat.le_of_ble_eq_true rfl) (by simp [mj_recv, rS_f hs10]) rfl (mj_Ok.up (by decide) (rp_termsOf (D := 0) (r := x) (by omega) K10.nR hs10)) (fun v' h' hq' => ?_) (fun i h' hq' => by cases hq')
  cases hq'
  refine mj_T.pl rfl rfl rfl rfl ?_
  exact mj_T.ret rfl rfl rfl ⟨_, g10, ⟨by omega, by omega⟩, rfl, ⟨S10, N, B, X, V, hs10, K10⟩⟩
theorem rp_coefficient {x y : Int} (hx : jr x) (hy : jr y) (hI : jI tm er T h) : mj_Ok 40 257 [.ref 0, .int (jn x), .int (jn y)] h (rI tm er T) := by
  refine mj_Ok.of (M := mj_m257) rfl rfl rfl ?_
  obtain ⟨S, N, B, X, V, hs, K⟩ := hI
  iterate 2 refine mj_T.pl rfl rfl rfl rfl ?_
  refine rT_put (v := 0) hs rfl rfl (by decide) rfl (fun g12 hs12 => ?_)
  have K12 := K.put (k := 3) (v := 0) ⟨by decide, by decide⟩ (by decide) (by decide) (by decide) (by decide) (by decide)
  generalize jvu S 3 0 = S12 at hs12 K12
  refine mj_T.pl rfl rfl rfl rfl ?_
  refine mj_T.call (ins := .invokestatic 181) rfl rfl (Nat.le_of_ble_eq_true rfl) (Nat.le_of_ble_eq_true rfl) rfl rfl (mj_Ok.up (by decide) (rp_isRegister (D := 0) hx)) (fun v' h' hq' => ?_) (fun i h' hq' => by rcases hq' with ⟨_, _, h⟩ | ⟨_, h⟩ <;> cases h)
  rcases hq' with ⟨x1, x2, hq'⟩ | ⟨_, hq'⟩
  case' inr =>
    cases hq'
    refine mj_T.if0 (a := 0) rfl ⟨by decide, by decide⟩ (fun hc => ?_) (fun hc => ?_)
    · simp [jc] at hc
    iterate 2 refine mj_T.pl rfl rfl rfl rfl ?_
    refine mj_T.call (ins := .invokevirtual 198) rfl rfl (Nat.le_of_ble_eq_true rfl) (Nat.le_of_ble_eq_true rfl) (by simp [mj_recv, rS_f hs12]) rfl (mj_Ok.up (by decide) (rp_fails (D := 0) (c := 1) hs12)) (fun v' g13 hq' => ?_) (fun i h' hq' => by obtain ⟨_, _, h⟩ := hq'; cases h)
    obtain ⟨_, hs13, hq'⟩ := hq'
    cases hq'
    exact mj_T.ret rfl rfl rfl ⟨0, g13, ⟨by decide, by decide⟩, rfl, ⟨_, N, B, X, V, hs13, K12.put ⟨by decide, by decide⟩ (by decide) (by decide) (by decide) (by decide) (by decide)⟩⟩
  cases hq'
  refine mj_T.if0 (a := 1) rfl ⟨by decide, by decide⟩ (fun hc => ?_) (fun hc => ?_)
  rotate_left
  · simp [jc] at hc
  obtain ⟨x, rfl⟩ := Int.eq_ofNat_of_zero_le x1
  refine mj_T.pl rfl rfl rfl rfl ?_
  refine mj_T.i2l rfl hy ?_
  iterate 2 refine mj_T.pl rfl rfl rfl rfl ?_
  refine mj_T.call (ins := .invokestatic 177) rfl rfl (Nat.le_of_ble_eq_true rfl) (Nat.le_of_ble_eq_true rfl) rfl rfl (mj_Ok.up (by decide) (rp_in (D := 0) (v := y) (lo := 0) (hi := 12) ⟨by have := hy.1; omega, by have := hy.2; omega⟩ ⟨by decide, by decide⟩ ⟨by decide, by decide⟩)) (fun v' h' hq' => ?_) (fun i h' hq' => by rcases hq' with ⟨_, _, h⟩ | ⟨_, h⟩ <;> cases h)
  rcases hq' with ⟨r14a, r14b, hq'⟩ | ⟨_, hq'⟩
  case' inr =>
    cases hq'
    refine mj_T.if0 (a := 0) rfl ⟨by decide, by decide⟩ (fun hc => ?_) (fun hc => ?_)
    · simp [jc] at hc
    iterate 2 refine mj_T.pl rfl rfl rfl rfl ?_
    refine mj_T.call (ins := .invokevirtual 198) rfl rfl (Nat.le_of_ble_eq_true rfl) (Nat.le_of_ble_eq_true rfl) (by simp [mj_recv, rS_f hs12]) rfl (mj_Ok.up (by decide) (rp_fails (D := 0) (c := 2) hs12)) (fun v' g15 hq' => ?_) (fun i h' hq' => by obtain ⟨_, _, h⟩ := hq'; cases h)
    obtain ⟨_, hs15, hq'⟩ := hq'
    cases hq'
    exact mj_T.ret rfl rfl rfl ⟨0, g15, ⟨by decide, by decide⟩, rfl, ⟨_, N, B, X, V, hs15, K12.put ⟨by decide, by decide⟩ (by decide) (by decide) (by decide) (by decide) (by decide)⟩⟩
  cases hq'
  refine mj_T.if0 (a := 1) rfl ⟨by decide, by decide⟩ (fun hc => ?_) (fun hc => ?_)
  rotate_left
  · simp [jc] at hc
  obtain ⟨y, rfl⟩ := Int.eq_ofNat_of_zero_le r14a
  iterate 2 refine mj_T.pl rfl rfl rfl rfl ?_
  refine mj_T.pl rfl rfl rfl rfl ?_
  refine rT_get hs12 rfl rfl ?_
  iterate 2 refine mj_T.pl rfl rfl rfl rfl ?_
  refine mj_T.imul (a := (x : Int)) (b := 13) rfl ?_
  refine mj_T.pl rfl rfl rfl rfl ?_
  refine mj_T.iadd rfl ?_
  rw [show (x : Int) * 13 + (y : Int) = ((x * 13 + y : Nat) : Int) by omega]
  refine rT_ldN hs12 rfl ⟨by omega, by omega⟩ ?_
  rw [Int.toNat_natCast]
  refine mj_T.call (ins := .invokevirtual 45) rfl rfl (Nat.le_of_ble_eq_true rfl) (Nat.le_of_ble_eq_true rfl) (by simp [mj_recv, rS_f hs12]) rfl (mj_Ok.up (by decide) (jS_sets (D := 0) (rG S12 N B T X) (s := 652) (v := N (x * 13 + y)) (by decide) (K12.nR _ (by omega)) hs12)) (fun v' g16 hq' => ?_) (fun i h' hq' => by obtain ⟨_, _, h⟩ := hq'; cases h)
  obtain ⟨_, hs16, hq'⟩ := hq'
  cases hq'
  iterate 2 refine mj_T.pl rfl rfl rfl rfl ?_
  refine mj_T.call (ins := .invokevirtual 295) rfl rfl (Nat.le_of_ble_eq_true rfl) (Nat.le_of_ble_eq_true rfl) (by simp [mj_recv, rS_f hs16]) rfl (mj_Ok.up (by decide) (rp_tellsWhole (D := 0) (s := 652) (by decide) hs16)) (fun v' g17 hq' => ?_) (fun i h' hq' => by obtain ⟨_, _, _, _, _, h⟩ := hq'; cases h)
  obtain ⟨W17, z17, _, hs17, hz17, hq'⟩ := hq'
  cases hq'
  exact mj_T.ret rfl rfl rfl ⟨_, g17, hz17, rfl, ⟨S12, N, B, X, W17, hs17, K12⟩⟩
theorem rp_content {x : Int} (hx : jr x) (hI : jI tm er T h) : mj_Ok 40 258 [.ref 0, .int (jn x)] h (rI tm er T) := by
  refine mj_Ok.of (M := mj_m258) rfl rfl rfl ?_
  obtain ⟨S, N, B, X, V, hs, K⟩ := hI
  iterate 2 refine mj_T.pl rfl rfl rfl rfl ?_
  refine rT_put (v := 0) hs rfl rfl (by decide) rfl (fun g18 hs18 => ?_)
  have K18 := K.put (k := 3) (v := 0) ⟨by decide, by decide⟩ (by decide) (by decide) (by decide) (by decide) (by decide)
  generalize jvu S 3 0 = S18 at hs18 K18
  refine mj_T.pl rfl rfl rfl rfl ?_
  refine mj_T.call (ins := .invokestatic 181) rfl rfl (Nat.le_of_ble_eq_true rfl) (Nat.le_of_ble_eq_true rfl) rfl rfl (mj_Ok.up (by decide) (rp_isRegister (D := 0) hx)) (fun v' h' hq' => ?_) (fun i h' hq' => by rcases hq' with ⟨_, _, h⟩ | ⟨_, h⟩ <;> cases h)
  rcases hq' with ⟨x1, x2, hq'⟩ | ⟨_, hq'⟩
  case' inr =>
    cases hq'
    refine mj_T.if0 (a := 0) rfl ⟨by decide, by decide⟩ (fun hc => ?_) (fun hc => ?_)
    · simp [jc] at hc
    iterate 2 refine mj_T.pl rfl rfl rfl rfl ?_
    refine mj_T.call (ins := .invokevirtual 198) rfl rfl (Nat.le_of_ble_eq_true rfl) (Nat.le_of_ble_eq_true rfl) (by simp [mj_recv, rS_f hs18]) rfl (mj_Ok.up (by decide) (rp_fails (D := 0) (c := 1) hs18)) (fun v' g19 hq' => ?_) (fun i h' hq' => by obtain ⟨_, _, h⟩ := hq'; cases h)
    obtain ⟨_, hs19, hq'⟩ := hq'
    cases hq'
    exact mj_T.ret rfl rfl rfl ⟨0, g19, ⟨by decide, by decide⟩, rfl, ⟨_, N, B, X, V, hs19, K18.put ⟨by decide, by decide⟩ (by decide) (by decide) (by decide) (by decide) (by decide)⟩⟩
  cases hq'
  refine mj_T.if0 (a := 1) rfl ⟨by decide, by decide⟩ (fun hc => ?_) (fun hc => ?_)
  rotate_left
  · simp [jc] at hc
  obtain ⟨x, rfl⟩ := Int.eq_ofNat_of_zero_le x1
  iterate 3 refine mj_T.pl rfl rfl rfl rfl ?_
  refine mj_T.call (ins := .invokevirtual 213) rfl rfl (Nat.le_of_ble_eq_true rfl) (Nat.le_of_ble_eq_true rfl) (by simp [mj_recv, rS_f hs18]) rfl (mj_Ok.up (by decide) (rp_loads (D := 0) (p := 0) (r := x) (by decide) (by omega) K18.nR hs18)) (fun v' g20 hq' => ?_) (fun i h' hq' => by obtain ⟨_, _, h⟩ := hq'; cases h)
  obtain ⟨_, hs20, hq'⟩ := hq'
  cases hq'
  have a20 : ∀ e, e < 13 → jfl V 0 (fun e => N (x * 13 + e)) 13 (0 * 13 + e) = N (x * 13 + e) := fun e he => jfl_at _ _ _ he
  have b20 : ∀ s, (s < 0 * 13 ∨ 0 * 13 + 13 ≤ s) → jfl V 0 (fun e => N (x * 13 + e)) 13 s = V s := fun s hc => jfl_off _ _ _ hc
  generalize jfl V 0 (fun e => N (x * 13 + e)) 13 = W20 at hs20 a20 b20
  iterate 3 refine mj_T.pl rfl rfl rfl rfl ?_
  refine mj_T.call (ins := .invokevirtual 130) rfl rfl (Nat.le_of_ble_eq_true rfl) (Nat.le_of_ble_eq_true rfl) (by simp [mj_recv, rS_f hs20]) rfl (mj_Ok.up (by decide) (jp_contents (D := 0) (rG S18 N B T X) (to := 661) (p := 0) (by decide) (by decide) (by decide) (by decide) (by decide) (by decide) (by decide) hs20)) (fun v' g21 hq' => ?_) (fun i h' hq' => by obtain ⟨_, _, _, _, _, h⟩ := hq'; cases h)
  obtain ⟨W21, _, hs21, _, _, hq'⟩ := hq'
  cases hq'
  iterate 2 refine mj_T.pl rfl rfl rfl rfl ?_
  refine mj_T.call (ins := .invokevirtual 295) rfl rfl (Nat.le_of_ble_eq_true rfl) (Nat.le_of_ble_eq_true rfl) (by simp [mj_recv, rS_f hs21]) rfl (mj_Ok.up (by decide) (rp_tellsWhole (D := 0) (s := 661) (by decide) hs21)) (fun v' g22 hq' => ?_) (fun i h' hq' => by obtain ⟨_, _, _, _, _, h⟩ := hq'; cases h)
  obtain ⟨W22, z22, _, hs22, hz22, hq'⟩ := hq'
  cases hq'
  exact mj_T.ret rfl rfl rfl ⟨_, g22, hz22, rfl, ⟨S18, N, B, X, W22, hs22, K18⟩⟩
theorem rp_isFraction {x y : Int} (hx : jr x) (hy : jr y) : mj_Ok 39 259 [.int (jn x), .int (jn y)] h (fun r => ((-1000 ≤ x ∧ x ≤ 1000) ∧ (1 ≤ y ∧ y ≤ 1000) ∧ r = (.inl (some (.int (jn 1))), h)) ∨ (True ∧ r = (.inl (some (.int (jn 0))), h))) := by
  refine mj_Ok.of (M := mj_m259) rfl rfl rfl ?_
  have t30 : mj_T 38 mj_m259 30 [some (.int (jn x)), some (.int (jn y))] [] h (fun r => ((-1000 ≤ x ∧ x ≤ 1000) ∧ (1 ≤ y ∧ y ≤ 1000) ∧ r = (.inl (some (.int (jn 1))), h)) ∨ (True ∧ r = (.inl (some (.int (jn 0))), h))) := by
    refine mj_T.pl rfl rfl rfl rfl ?_
    exact mj_T.ret rfl rfl rfl (Or.inr ⟨trivial, rfl⟩)
  refine mj_T.pl rfl rfl rfl rfl ?_
  refine mj_T.i2l rfl hx ?_
  iterate 2 refine mj_T.pl rfl rfl rfl rfl ?_
  refine mj_T.call (ins := .invokestatic 177) rfl rfl (Nat.le_of_ble_eq_true rfl) (Nat.le_of_ble_eq_true rfl) rfl rfl (mj_Ok.up (by decide) (rp_in (D := 0) (v := x) (lo := -1000) (hi := 1000) ⟨by have := hx.1; omega, by have := hx.2; omega⟩ ⟨by decide, by decide⟩ ⟨by decide, by decide⟩)) (fun v' h' hq' => ?_) (fun i h' hq' => by rcases hq' with ⟨_, _, h⟩ | ⟨_, h⟩ <;> cases h)
  rcases hq' with ⟨x1, x2, hq'⟩ | ⟨_, hq'⟩
  case' inr =>
    cases hq'
    refine mj_T.if0 (a := 0) rfl ⟨by decide, by decide⟩ (fun hc => ?_) (fun hc => ?_)
    · exact t30
    · simp [jc] at hc
  cases hq'
  refine mj_T.if0 (a := 1) rfl ⟨by decide, by decide⟩ (fun hc => ?_) (fun hc => ?_)
  · simp [jc] at hc
  refine mj_T.pl rfl rfl rfl rfl ?_
  refine mj_T.i2l rfl hy ?_
  iterate 2 refine mj_T.pl rfl rfl rfl rfl ?_
  refine mj_T.call (ins := .invokestatic 177) rfl rfl (Nat.le_of_ble_eq_true rfl) (Nat.le_of_ble_eq_true rfl) rfl rfl (mj_Ok.up (by decide) (rp_in (D := 0) (v := y) (lo := 1) (hi := 1000) ⟨by have := hy.1; omega, by have := hy.2; omega⟩ ⟨by decide, by decide⟩ ⟨by decide, by decide⟩)) (fun v' h' hq' => ?_) (fun i h' hq' => by rcases hq' with ⟨_, _, h⟩ | ⟨_, h⟩ <;> cases h)
  rcases hq' with ⟨y1, y2, hq'⟩ | ⟨_, hq'⟩
  case' inr =>
    cases hq'
    refine mj_T.if0 (a := 0) rfl ⟨by decide, by decide⟩ (fun hc => ?_) (fun hc => ?_)
    · exact t30
    · simp [jc] at hc
  cases hq'
  refine mj_T.if0 (a := 1) rfl ⟨by decide, by decide⟩ (fun hc => ?_) (fun hc => ?_)
  · simp [jc] at hc
  iterate 2 refine mj_T.pl rfl rfl rfl rfl ?_
  exact mj_T.ret rfl rfl rfl (Or.inl ⟨⟨x1, x2⟩, ⟨y1, y2⟩, rfl⟩)
theorem rp_setsFraction {S N B X V : Nat → Int} {D : Nat} {x y : Int} (hx : jr x) (hy : jr y) (hs : rS S N B T X V h) : mj_Ok (D + 2) 260 [.ref 0, .int (jn x), .int (jn y)] h (fun r => ∃ (W : Nat → Int) (h' : mj_H), rS S N B T X W h' ∧ W 656 = x ∧ W 657 = y ∧ (∀ s, s ≠ 656 → s ≠ 657 → W s = V s) ∧ r = (.inl none, h')) := by
  refine mj_Ok.of (M := mj_m260) rfl rfl rfl ?_
  iterate 3 refine mj_T.pl rfl rfl rfl rfl ?_
  refine mj_T.i2l rfl hx ?_
  refine mj_T.call (ins := .invokevirtual 45) rfl rfl (Nat.le_of_ble_eq_true rfl) (Nat.le_of_ble_eq_true rfl) (by simp [mj_recv, rS_f hs]) rfl (jS_sets (D := D) (rG S N B T X) (s := 656) (v := x) (by decide) ⟨by have := hx.1; omega, by have := hx.2; omega⟩ hs) (fun v' h1 hq' => ?_) (fun i h' hq' => by obtain ⟨_, _, h⟩ := hq'; cases h)
  obtain ⟨_, hs1, hq'⟩ := hq'
  cases hq'
  iterate 3 refine mj_T.pl rfl rfl rfl rfl ?_
  refine mj_T.i2l rfl hy ?_
  refine mj_T.call (ins := .invokevirtual 45) rfl rfl (Nat.le_of_ble_eq_true rfl) (Nat.le_of_ble_eq_true rfl) (by simp [mj_recv, rS_f hs1]) rfl (jS_sets (D := D) (rG S N B T X) (s := 657) (v := y) (by decide) ⟨by have := hy.1; omega, by have := hy.2; omega⟩ hs1) (fun v' h2 hq' => ?_) (fun i h' hq' => by obtain ⟨_, _, h⟩ := hq'; cases h)
  obtain ⟨_, hs2, hq'⟩ := hq'
  cases hq'
  exact mj_T.ret rfl rfl rfl ⟨_, h2, hs2, by rw [jvu_ne _ _ _ (by decide), jvu_at], jvu_at _ _ _, fun s h1 h2 => by rw [jvu_ne _ _ _ h2, jvu_ne _ _ _ h1], rfl⟩
theorem rp_value {x y z : Int} (hx : jr x) (hy : jr y) (hz : jr z) (hI : jI tm er T h) : mj_Ok 40 261 [.ref 0, .int (jn x), .int (jn y), .int (jn z)] h (rI tm er T) := by
  refine mj_Ok.of (M := mj_m261) rfl rfl rfl ?_
  obtain ⟨S, N, B, X, V, hs, K⟩ := hI
  iterate 2 refine mj_T.pl rfl rfl rfl rfl ?_
  refine rT_put (v := 0) hs rfl rfl (by decide) rfl (fun g23 hs23 => ?_)
  have K23 := K.put (k := 3) (v := 0) ⟨by decide, by decide⟩ (by decide) (by decide) (by decide) (by decide) (by decide)
  generalize jvu S 3 0 = S23 at hs23 K23
  refine mj_T.pl rfl rfl rfl rfl ?_
  refine mj_T.call (ins := .invokestatic 181) rfl rfl (Nat.le_of_ble_eq_true rfl) (Nat.le_of_ble_eq_true rfl) rfl rfl (mj_Ok.up (by decide) (rp_isRegister (D := 0) hx)) (fun v' h' hq' => ?_) (fun i h' hq' => by rcases hq' with ⟨_, _, h⟩ | ⟨_, h⟩ <;> cases h)
  rcases hq' with ⟨x1, x2, hq'⟩ | ⟨_, hq'⟩
  case' inr =>
    cases hq'
    refine mj_T.if0 (a := 0) rfl ⟨by decide, by decide⟩ (fun hc => ?_) (fun hc => ?_)
    · simp [jc] at hc
    iterate 2 refine mj_T.pl rfl rfl rfl rfl ?_
    refine mj_T.call (ins := .invokevirtual 198) rfl rfl (Nat.le_of_ble_eq_true rfl) (Nat.le_of_ble_eq_true rfl) (by simp [mj_recv, rS_f hs23]) rfl (mj_Ok.up (by decide) (rp_fails (D := 0) (c := 1) hs23)) (fun v' g24 hq' => ?_) (fun i h' hq' => by obtain ⟨_, _, h⟩ := hq'; cases h)
    obtain ⟨_, hs24, hq'⟩ := hq'
    cases hq'
    exact mj_T.ret rfl rfl rfl ⟨0, g24, ⟨by decide, by decide⟩, rfl, ⟨_, N, B, X, V, hs24, K23.put ⟨by decide, by decide⟩ (by decide) (by decide) (by decide) (by decide) (by decide)⟩⟩
  cases hq'
  refine mj_T.if0 (a := 1) rfl ⟨by decide, by decide⟩ (fun hc => ?_) (fun hc => ?_)
  rotate_left
  · simp [jc] at hc
  obtain ⟨x, rfl⟩ := Int.eq_ofNat_of_zero_le x1
  iterate 2 refine mj_T.pl rfl rfl rfl rfl ?_
  refine mj_T.call (ins := .invokestatic 302) rfl rfl (Nat.le_of_ble_eq_true rfl) (Nat.le_of_ble_eq_true rfl) rfl rfl (mj_Ok.up (by decide) (rp_isFraction hy hz)) (fun v' h' hq' => ?_) (fun i h' hq' => by rcases hq' with ⟨_, _, h⟩ | ⟨_, h⟩ <;> cases h)
  rcases hq' with ⟨⟨y1, y2⟩, ⟨z1, z2⟩, hq'⟩ | ⟨_, hq'⟩
  case' inr =>
    cases hq'
    refine mj_T.if0 (a := 0) rfl ⟨by decide, by decide⟩ (fun hc => ?_) (fun hc => ?_)
    · simp [jc] at hc
    iterate 2 refine mj_T.pl rfl rfl rfl rfl ?_
    refine mj_T.call (ins := .invokevirtual 198) rfl rfl (Nat.le_of_ble_eq_true rfl) (Nat.le_of_ble_eq_true rfl) (by simp [mj_recv, rS_f hs23]) rfl (mj_Ok.up (by decide) (rp_fails (D := 0) (c := 2) hs23)) (fun v' g25 hq' => ?_) (fun i h' hq' => by obtain ⟨_, _, h⟩ := hq'; cases h)
    obtain ⟨_, hs25, hq'⟩ := hq'
    cases hq'
    exact mj_T.ret rfl rfl rfl ⟨0, g25, ⟨by decide, by decide⟩, rfl, ⟨_, N, B, X, V, hs25, K23.put ⟨by decide, by decide⟩ (by decide) (by decide) (by decide) (by decide) (by decide)⟩⟩
  cases hq'
  refine mj_T.if0 (a := 1) rfl ⟨by decide, by decide⟩ (fun hc => ?_) (fun hc => ?_)
  rotate_left
  · simp [jc] at hc
  iterate 3 refine mj_T.pl rfl rfl rfl rfl ?_
  refine mj_T.call (ins := .invokevirtual 213) rfl rfl (Nat.le_of_ble_eq_true rfl) (Nat.le_of_ble_eq_true rfl) (by simp [mj_recv, rS_f hs23]) rfl (mj_Ok.up (by decide) (rp_loads (D := 0) (p := 0) (r := x) (by decide) (by omega) K23.nR hs23)) (fun v' g26 hq' => ?_) (fun i h' hq' => by obtain ⟨_, _, h⟩ := hq'; cases h)
  obtain ⟨_, hs26, hq'⟩ := hq'
  cases hq'
  have a26 : ∀ e, e < 13 → jfl V 0 (fun e => N (x * 13 + e)) 13 (0 * 13 + e) = N (x * 13 + e) := fun e he => jfl_at _ _ _ he
  have b26 : ∀ s, (s < 0 * 13 ∨ 0 * 13 + 13 ≤ s) → jfl V 0 (fun e => N (x * 13 + e)) 13 s = V s := fun s hc => jfl_off _ _ _ hc
  generalize jfl V 0 (fun e => N (x * 13 + e)) 13 = W26 at hs26 a26 b26
  have c1 : ∀ e, e < 13 → (W26 (0 * 13 + e)).natAbs ≤ 10 ^ 18 := fun e he => by
    rw [a26 e he]
    exact K23.sh (r := x) (by omega) he
  iterate 3 refine mj_T.pl rfl rfl rfl rfl ?_
  refine mj_T.call (ins := .invokevirtual 305) rfl rfl (Nat.le_of_ble_eq_true rfl) (Nat.le_of_ble_eq_true rfl) (by simp [mj_recv, rS_f hs26]) rfl (mj_Ok.up (by decide) (rp_setsFraction (D := 0) (x := y) (y := z) hy hz hs26)) (fun v' g27 hq' => ?_) (fun i h' hq' => by obtain ⟨_, _, _, _, _, _, h⟩ := hq'; cases h)
  obtain ⟨W27, _, hs27, x27a, x27b, x27c, hq'⟩ := hq'
  cases hq'
  iterate 2 refine mj_T.pl rfl rfl rfl rfl ?_
  refine mj_T.call (ins := .invokevirtual 162) rfl rfl (Nat.le_of_ble_eq_true rfl) (Nat.le_of_ble_eq_true rfl) (by simp [mj_recv, rS_f hs27]) rfl (mj_Ok.up (by decide) (jp_valueAt (D := 0) (V := W27) (p := 0) (rG S23 N B T X) (by decide) (C := 10 ^ 18) (x := 1000) (fun e he => by rw [x27c _ (by omega) (by omega)]; exact c1 e he) (by rw [x27a]; omega) (by rw [x27b]; omega) (by decide) rp_fitv rp_fitv2 hs27)) (fun v' g28 hq' => ?_) (fun i h' hq' => by obtain ⟨_, _, _, _, _, _, _, h⟩ := hq'; cases h)
  obtain ⟨W28, _, hs28, _, _, _, f0, hq'⟩ := hq'
  cases hq'
  iterate 4 refine mj_T.pl rfl rfl rfl rfl ?_
  refine mj_T.call (ins := .invokevirtual 308) rfl rfl (Nat.le_of_ble_eq_true rfl) (Nat.le_of_ble_eq_true rfl) (by simp [mj_recv, rS_f hs28]) rfl (mj_Ok.up (by decide) (jp_tells (D := 0) (rG S23 N B T X) (i := 659) (j := 660) (by decide) (by decide) (by decide) (by decide) (f0 (by rw [x27b]; omega)) hs28)) (fun v' g29 hq' => ?_) (fun i h' hq' => by obtain ⟨_, _, _, _, _, _, h⟩ := hq'; cases h)
  obtain ⟨W29, _, hs29, _, _, _, hq'⟩ := hq'
  cases hq'
  have hsr := jsg_range (W29 650)
  exact mj_T.ret rfl rfl rfl ⟨_, g29, ⟨by omega, by omega⟩, rfl, ⟨S23, N, B, X, W29, hs29, K23⟩⟩
end RPU
/-! Calls of the reference: exponents, divisibility, sameness, agreements, told digits. -/
section RPU
variable {h : mj_H} {tm er : Int} {T : Nat → Int}
theorem rp_ex_in {S N B X V : Nat → Int} {D a m : Nat} {t0 : Int} (ha : a ≤ 5) (hN : ∀ j, j < 78 → jR (N j)) (hs : rS S N B T X V h) {Q : mj_R → Prop} (hout : ∀ k, k ≤ 12 → m ≤ rtm N a k → mj_T D mj_m256 71 [some (.ref 0), some (.int (jn (a : Int))), some (.int (jn (t0 : Int))), some (.int (jn ((k : Int)))), some (.int (jn ((m : Int))))] [] h Q) :
    ∀ k, k ≤ 12 → m + 1 ≤ rtm N a (k + 1) → mj_T D mj_m256 49 [some (.ref 0), some (.int (jn (a : Int))), some (.int (jn (t0 : Int))), some (.int (jn ((k : Int)))), some (.int (jn ((m : Int))))] [] h Q := by
  intro k
  induction k with
  | zero =>
    intro hk hr
    refine mj_T.pl rfl rfl rfl rfl ?_
    refine rT_get hs rfl rfl ?_
    iterate 2 refine mj_T.pl rfl rfl rfl rfl ?_
    refine mj_T.imul (a := (a : Int)) (b := 13) rfl ?_
    refine mj_T.pl rfl rfl rfl rfl ?_
    refine mj_T.iadd rfl ?_
    rw [show (a : Int) * 13 + ((0 : Nat) : Int) = ((a * 13 + 0 : Nat) : Int) by omega]
    refine rT_ldN hs rfl ⟨by omega, by omega⟩ ?_
    rw [Int.toNat_natCast]
    refine mj_T.pl rfl rfl rfl rfl ?_
    refine mj_T.lif (a := N (a * 13 + 0)) (b := 0) rfl rfl (hN _ (by omega)) ⟨by decide, by decide⟩ (fun hc2 => ?_) (fun hc2 => ?_)
    · simp only [jc, Bool.not_eq_true', decide_eq_false_iff_not] at hc2
      refine hout 0 (by omega) ?_
      rw [show rtm N a (0 + 1) = rtm N a 0 + 1 from if_neg hc2] at hr
      omega
    · simp only [jc, Bool.not_eq_false', decide_eq_true_eq] at hc2
      rw [show rtm N a (0 + 1) = rtm N a 0 from if_pos hc2] at hr
      have : rtm N a 0 = 0 := rfl
      omega
  | succ k ih =>
    intro hk hr
    refine mj_T.pl rfl rfl rfl rfl ?_
    refine rT_get hs rfl rfl ?_
    iterate 2 refine mj_T.pl rfl rfl rfl rfl ?_
    refine mj_T.imul (a := (a : Int)) (b := 13) rfl ?_
    refine mj_T.pl rfl rfl rfl rfl ?_
    refine mj_T.iadd rfl ?_
    rw [show (a : Int) * 13 + ((k + 1 : Nat) : Int) = ((a * 13 + (k + 1) : Nat) : Int) by omega]
    refine rT_ldN hs rfl ⟨by omega, by omega⟩ ?_
    rw [Int.toNat_natCast]
    refine mj_T.pl rfl rfl rfl rfl ?_
    refine mj_T.lif (a := N (a * 13 + (k + 1))) (b := 0) rfl rfl (hN _ (by omega)) ⟨by decide, by decide⟩ (fun hc2 => ?_) (fun hc2 => ?_)
    · simp only [jc, Bool.not_eq_true', decide_eq_false_iff_not] at hc2
      refine hout (k + 1) (by omega) ?_
      rw [show rtm N a ((k + 1) + 1) = rtm N a (k + 1) + 1 from if_neg hc2] at hr
      omega
    · simp only [jc, Bool.not_eq_false', decide_eq_true_eq] at hc2
      rw [show rtm N a (k + 1 + 1) = rtm N a (k + 1) from if_pos hc2] at hr
      refine mj_T.iinc (a := ((k + 1 : Nat) : Int)) rfl rfl ?_
      refine mj_T.pl rfl rfl rfl rfl ?_
      rw [show ((k + 1 : Nat) : Int) + -1 = (k : Int) by omega]
      exact ih (by omega) hr
theorem rp_ex_out {S N B X V : Nat → Int} {D a : Nat} {t0 : Int} (ha : a ≤ 5) (hN : ∀ j, j < 78 → jR (N j)) (hs : rS S N B T X V h) {Q : mj_R → Prop} (hend : ∀ k : Nat, k ≤ 13 → Q (.inl (some (.int (jn (k : Int)))), h)) :
    ∀ (m k : Nat), k ≤ 13 → m ≤ rtm N a k → mj_T D mj_m256 41 [some (.ref 0), some (.int (jn (a : Int))), some (.int (jn (t0 : Int))), some (.int (jn ((k : Int)))), some (.int (jn ((m : Int) - 1)))] [] h Q := by
  intro m
  induction m with
  | zero =>
    intro k hk hr
    refine mj_T.pl rfl rfl rfl rfl ?_
    refine mj_T.if0 (a := ((0 : Nat) : Int) - 1) rfl ⟨by decide, by decide⟩ (fun hc => ?_) (fun hc => ?_)
    · refine mj_T.pl rfl rfl rfl rfl ?_
      exact mj_T.ret rfl rfl rfl (hend k hk)
    · simp [jc] at hc
  | succ m ih =>
    intro k hk hr
    refine mj_T.pl rfl rfl rfl rfl ?_
    refine mj_T.if0 (a := ((m + 1 : Nat) : Int) - 1) rfl ⟨by have := rtm_le N a k; omega, by have := rtm_le N a k; omega⟩ (fun hc => ?_) (fun hc => ?_)
    · simp only [jc, decide_eq_true_eq] at hc
      omega
    have hk1 := rtm_le N a k
    obtain ⟨k, rfl⟩ : ∃ k2, k = k2 + 1 := ⟨k - 1, by omega⟩
    rw [show ((m + 1 : Nat) : Int) - 1 = (m : Int) by omega]
    refine mj_T.iinc (a := ((k + 1 : Nat) : Int)) rfl rfl ?_
    rw [show ((k + 1 : Nat) : Int) + -1 = (k : Int) by omega]
    refine rp_ex_in (D := D) (m := m) (t0 := t0) ha hN hs (fun k2 hk2 hr2 => ?_) k (by omega) hr
    refine mj_T.iinc (a := (m : Int)) rfl rfl ?_
    refine mj_T.pl rfl rfl rfl rfl ?_
    exact ih k2 (by omega) hr2
theorem rp_exponent {x y : Int} (hx : jr x) (hy : jr y) (hI : jI tm er T h) : mj_Ok 40 256 [.ref 0, .int (jn x), .int (jn y)] h (rI tm er T) := by
  refine mj_Ok.of (M := mj_m256) rfl rfl rfl ?_
  obtain ⟨S, N, B, X, V, hs, K⟩ := hI
  iterate 2 refine mj_T.pl rfl rfl rfl rfl ?_
  refine rT_put (v := 0) hs rfl rfl (by decide) rfl (fun g1 hs1 => ?_)
  have K1 := K.put (k := 3) (v := 0) ⟨by decide, by decide⟩ (by decide) (by decide) (by decide) (by decide) (by decide)
  generalize jvu S 3 0 = S1 at hs1 K1
  have t29 : mj_T 39 mj_m256 29 [some (.ref 0), some (.int (jn x)), some (.int (jn y)), none, none] [] g1 (rI tm er T) := by
    iterate 2 refine mj_T.pl rfl rfl rfl rfl ?_
    refine mj_T.call (ins := .invokevirtual 198) rfl rfl (Nat.le_of_ble_eq_true rfl) (Nat.le_of_ble_eq_true rfl) (by simp [mj_recv, rS_f hs1]) rfl (mj_Ok.up (by decide) (rp_fails (D := 0) (c := 1) hs1)) (fun v' g2 hq' => ?_) (fun i h' hq' => by obtain ⟨_, _, h⟩ := hq'; cases h)
    obtain ⟨_, hs2, hq'⟩ := hq'
    cases hq'
    exact mj_T.ret rfl rfl rfl ⟨0, g2, ⟨by decide, by decide⟩, rfl, ⟨_, N, B, X, V, hs2, K1.put ⟨by decide, by decide⟩ (by decide) (by decide) (by decide) (by decide) (by decide)⟩⟩
  refine mj_T.pl rfl rfl rfl rfl ?_
  refine mj_T.call (ins := .invokestatic 181) rfl rfl (Nat.le_of_ble_eq_true rfl) (Nat.le_of_ble_eq_true rfl) rfl rfl (mj_Ok.up (by decide) (rp_isRegister (D := 0) hx)) (fun v' h' hq' => ?_) (fun i h' hq' => by rcases hq' with ⟨_, _, h⟩ | ⟨_, h⟩ <;> cases h)
  rcases hq' with ⟨x1, x2, hq'⟩ | ⟨_, hq'⟩
  case' inr =>
    cases hq'
    refine mj_T.if0 (a := 0) rfl ⟨by decide, by decide⟩ (fun hc => ?_) (fun hc => ?_)
    · exact t29
    · simp [jc] at hc
  cases hq'
  refine mj_T.if0 (a := 1) rfl ⟨by decide, by decide⟩ (fun hc => ?_) (fun hc => ?_)
  · simp [jc] at hc
  obtain ⟨x, rfl⟩ := Int.eq_ofNat_of_zero_le x1
  have hrt := rtm_le N x 13
  refine mj_T.pl rfl rfl rfl rfl ?_
  refine mj_T.i2l rfl hy ?_
  iterate 3 refine mj_T.pl rfl rfl rfl rfl ?_
  refine mj_T.call (ins := .invokevirtual 292) rfl rfl (Nat.le_of_ble_eq_true rfl) (Nat.le_of_ble_eq_true rfl) (by simp [mj_recv, rS_f hs1]) rfl (mj_Ok.up (by decide) (rp_termsOf (D := 0) (r := x) (by omega) K1.nR hs1)) (fun v' h' hq' => ?_) (fun i h' hq' => by cases hq')
  cases hq'
  refine mj_T.pl rfl rfl rfl rfl ?_
  refine mj_T.isub (a := ((rtm N x 13 : Nat) : Int)) (b := 1) rfl ?_
  refine mj_T.i2l rfl ⟨by omega, by omega⟩ ?_
  refine mj_T.call (ins := .invokestatic 177) rfl rfl (Nat.le_of_ble_eq_true rfl) (Nat.le_of_ble_eq_true rfl) rfl rfl (mj_Ok.up (by decide) (rp_in (D := 0) (v := y) (lo := 0) (hi := ((rtm N x 13 : Nat) : Int) - 1) ⟨by have := hy.1; omega, by have := hy.2; omega⟩ ⟨by decide, by decide⟩ ⟨by omega, by omega⟩)) (fun v' h' hq' => ?_) (fun i h' hq' => by rcases hq' with ⟨_, _, h⟩ | ⟨_, h⟩ <;> cases h)
  rcases hq' with ⟨y1, y2, hq'⟩ | ⟨_, hq'⟩
  case' inr =>
    cases hq'
    refine mj_T.if0 (a := 0) rfl ⟨by decide, by decide⟩ (fun hc => ?_) (fun hc => ?_)
    · simp [jc] at hc
    · exact t29
  cases hq'
  refine mj_T.if0 (a := 1) rfl ⟨by decide, by decide⟩ (fun hc => ?_) (fun hc => ?_)
  rotate_left
  · simp [jc] at hc
  obtain ⟨y, rfl⟩ := Int.eq_ofNat_of_zero_le y1
  iterate 4 refine mj_T.pl rfl rfl rfl rfl ?_
  have fin := rp_ex_out (D := 39) (a := x) (t0 := (y : Int)) (by omega) K1.nR hs1 (Q := rI tm er T) (fun k hk => ⟨(k : Int), _, ⟨by omega, by omega⟩, rfl, ⟨_, _, _, _, _, hs1, K1⟩⟩) (y + 1) 13 (by omega) (by omega)
  rw [show ((y + 1 : Nat) : Int) - 1 = (y : Int) by omega] at fin
  exact fin
theorem rp_divides {x y : Int} (hx : jr x) (hy : jr y) (hI : jI tm er T h) : mj_Ok 40 262 [.ref 0, .int (jn x), .int (jn y)] h (rI tm er T) := by
  refine mj_Ok.of (M := mj_m262) rfl rfl rfl ?_
  obtain ⟨S, N, B, X, V, hs, K⟩ := hI
  have t19 : mj_T 39 mj_m262 19 [some (.ref 0), some (.int (jn x)), some (.int (jn y))] [.ref 0] h (rI tm er T) := by
    refine mj_T.pl rfl rfl rfl rfl ?_
    refine rT_put (v := 1) hs rfl rfl (by decide) rfl (fun g1 hs1 => ?_)
    refine mj_T.pl rfl rfl rfl rfl ?_
    refine rT_get (v := .int (jn 1)) hs1 rfl (by rw [← jvu_at S 3 1]; rfl) ?_
    refine mj_T.if0 (a := 1) rfl ⟨by decide, by decide⟩ (fun hc => ?_) (fun hc => ?_)
    · simp [jc] at hc
    refine mj_T.pl rfl rfl rfl rfl ?_
    exact mj_T.ret rfl rfl rfl ⟨0, g1, ⟨by decide, by decide⟩, rfl, ⟨_, N, B, X, V, hs1, K.put ⟨by decide, by decide⟩ (by decide) (by decide) (by decide) (by decide) (by decide)⟩⟩
  refine mj_T.pl rfl rfl rfl rfl ?_
  refine mj_T.pl rfl rfl rfl rfl ?_
  refine mj_T.call (ins := .invokestatic 181) rfl rfl (Nat.le_of_ble_eq_true rfl) (Nat.le_of_ble_eq_true rfl) rfl rfl (mj_Ok.up (by decide) (rp_isRegister (D := 0) hx)) (fun v' h' hq' => ?_) (fun i h' hq' => by rcases hq' with ⟨_, _, h⟩ | ⟨_, h⟩ <;> cases h)
  rcases hq' with ⟨x1, x2, hq'⟩ | ⟨_, hq'⟩
  case' inr =>
    cases hq'
    refine mj_T.if0 (a := 0) rfl ⟨by decide, by decide⟩ (fun hc => ?_) (fun hc => ?_)
    · exact t19
    · simp [jc] at hc
  cases hq'
  refine mj_T.if0 (a := 1) rfl ⟨by decide, by decide⟩ (fun hc => ?_) (fun hc => ?_)
  · simp [jc] at hc
  refine mj_T.pl rfl rfl rfl rfl ?_
  refine mj_T.call (ins := .invokestatic 181) rfl rfl (Nat.le_of_ble_eq_true rfl) (Nat.le_of_ble_eq_true rfl) rfl rfl (mj_Ok.up (by decide) (rp_isRegister (D := 0) hy)) (fun v' h' hq' => ?_) (fun i h' hq' => by rcases hq' with ⟨_, _, h⟩ | ⟨_, h⟩ <;> cases h)
  rcases hq' with ⟨y1, y2, hq'⟩ | ⟨_, hq'⟩
  case' inr =>
    cases hq'
    refine mj_T.if0 (a := 0) rfl ⟨by decide, by decide⟩ (fun hc => ?_) (fun hc => ?_)
    · exact t19
    · simp [jc] at hc
  cases hq'
  refine mj_T.if0 (a := 1) rfl ⟨by decide, by decide⟩ (fun hc => ?_) (fun hc => ?_)
  · simp [jc] at hc
  clear t19
  iterate 2 refine mj_T.pl rfl rfl rfl rfl ?_
  refine rT_put (v := 0) hs rfl rfl (by decide) rfl (fun g1 hs1 => ?_)
  have K1 := K.put (k := 3) (v := 0) ⟨by decide, by decide⟩ (by decide) (by decide) (by decide) (by decide) (by decide)
  refine mj_T.pl rfl rfl rfl rfl ?_
  refine rT_get (v := .int (jn 0)) hs1 rfl (by rw [← jvu_at S 3 0]; rfl) ?_
  generalize jvu S 3 0 = S1 at hs1 K1
  refine mj_T.if0 (a := 0) rfl ⟨by decide, by decide⟩ (fun hc => ?_) (fun hc => ?_)
  rotate_left
  · simp [jc] at hc
  obtain ⟨x, rfl⟩ := Int.eq_ofNat_of_zero_le x1
  obtain ⟨y, rfl⟩ := Int.eq_ofNat_of_zero_le y1
  have t48 : mj_T 39 mj_m262 48 [some (.ref 0), some (.int (jn (x : Int))), some (.int (jn (y : Int)))] [] g1 (rI tm er T) := by
    iterate 2 refine mj_T.pl rfl rfl rfl rfl ?_
    refine mj_T.call (ins := .invokevirtual 232) rfl rfl (Nat.le_of_ble_eq_true rfl) (Nat.le_of_ble_eq_true rfl) (by simp [mj_recv, rS_f hs1]) rfl (mj_Ok.up (by decide) (rp_isZero (D := 0) (r := y) (by omega) K1.nR hs1)) (fun v' h' hq' => ?_) (fun i h' hq' => by rcases hq' with ⟨_, h⟩ | ⟨_, h⟩ <;> cases h)
    rcases hq' with ⟨_, hq'⟩ | ⟨_, hq'⟩
    · cases hq'
      exact mj_T.ret rfl rfl rfl ⟨1, _, ⟨by decide, by decide⟩, rfl, ⟨_, _, _, _, _, hs1, K1⟩⟩
    · cases hq'
      exact mj_T.ret rfl rfl rfl ⟨0, _, ⟨by decide, by decide⟩, rfl, ⟨_, _, _, _, _, hs1, K1⟩⟩
  iterate 2 refine mj_T.pl rfl rfl rfl rfl ?_
  refine mj_T.call (ins := .invokevirtual 232) rfl rfl (Nat.le_of_ble_eq_true rfl) (Nat.le_of_ble_eq_true rfl) (by simp [mj_recv, rS_f hs1]) rfl (mj_Ok.up (by decide) (rp_isZero (D := 0) (r := x) (by omega) K1.nR hs1)) (fun v' h' hq' => ?_) (fun i h' hq' => by rcases hq' with ⟨_, h⟩ | ⟨_, h⟩ <;> cases h)
  rcases hq' with ⟨_, hq'⟩ | ⟨nzx, hq'⟩
  case' inl =>
    cases hq'
    refine mj_T.if0 (a := 1) rfl ⟨by decide, by decide⟩ (fun hc => ?_) (fun hc => ?_)
    · exact t48
    · simp [jc] at hc
  cases hq'
  refine mj_T.if0 (a := 0) rfl ⟨by decide, by decide⟩ (fun hc => ?_) (fun hc => ?_)
  · simp [jc] at hc
  iterate 2 refine mj_T.pl rfl rfl rfl rfl ?_
  refine mj_T.call (ins := .invokevirtual 232) rfl rfl (Nat.le_of_ble_eq_true rfl) (Nat.le_of_ble_eq_true rfl) (by simp [mj_recv, rS_f hs1]) rfl (mj_Ok.up (by decide) (rp_isZero (D := 0) (r := y) (by omega) K1.nR hs1)) (fun v' h' hq' => ?_) (fun i h' hq' => by rcases hq' with ⟨_, h⟩ | ⟨_, h⟩ <;> cases h)
  rcases hq' with ⟨_, hq'⟩ | ⟨nzy, hq'⟩
  case' inl =>
    cases hq'
    refine mj_T.if0 (a := 1) rfl ⟨by decide, by decide⟩ (fun hc => ?_) (fun hc => ?_)
    · simp [jc] at hc
    · exact t48
  cases hq'
  refine mj_T.if0 (a := 0) rfl ⟨by decide, by decide⟩ (fun hc => ?_) (fun hc => ?_)
  rotate_left
  · simp [jc] at hc
  clear t48
  iterate 3 refine mj_T.pl rfl rfl rfl rfl ?_
  refine mj_T.call (ins := .invokevirtual 213) rfl rfl (Nat.le_of_ble_eq_true rfl) (Nat.le_of_ble_eq_true rfl) (by simp [mj_recv, rS_f hs1]) rfl (mj_Ok.up (by decide) (rp_loads (D := 0) (p := 0) (r := x) (by decide) (by omega) K1.nR hs1)) (fun v' g3 hq' => ?_) (fun i h' hq' => by obtain ⟨_, _, h⟩ := hq'; cases h)
  obtain ⟨_, hs3, hq'⟩ := hq'
  cases hq'
  have a3 : ∀ e, e < 13 → jfl V 0 (fun e => N (x * 13 + e)) 13 (0 * 13 + e) = N (x * 13 + e) := fun e he => jfl_at _ _ _ he
  have b3 : ∀ s, (s < 0 * 13 ∨ 0 * 13 + 13 ≤ s) → jfl V 0 (fun e => N (x * 13 + e)) 13 s = V s := fun s hc => jfl_off _ _ _ hc
  generalize jfl V 0 (fun e => N (x * 13 + e)) 13 = W3 at hs3 a3 b3
  iterate 3 refine mj_T.pl rfl rfl rfl rfl ?_
  refine mj_T.call (ins := .invokevirtual 213) rfl rfl (Nat.le_of_ble_eq_true rfl) (Nat.le_of_ble_eq_true rfl) (by simp [mj_recv, rS_f hs3]) rfl (mj_Ok.up (by decide) (rp_loads (D := 0) (p := 1) (r := y) (by decide) (by omega) K1.nR hs3)) (fun v' g4 hq' => ?_) (fun i h' hq' => by obtain ⟨_, _, h⟩ := hq'; cases h)
  obtain ⟨_, hs4, hq'⟩ := hq'
  cases hq'
  have a4 : ∀ e, e < 13 → jfl W3 1 (fun e => N (y * 13 + e)) 13 (1 * 13 + e) = N (y * 13 + e) := fun e he => jfl_at _ _ _ he
  have b4 : ∀ s, (s < 1 * 13 ∨ 1 * 13 + 13 ≤ s) → jfl W3 1 (fun e => N (y * 13 + e)) 13 s = W3 s := fun s hc => jfl_off _ _ _ hc
  generalize jfl W3 1 (fun e => N (y * 13 + e)) 13 = W4 at hs4 a4 b4
  have c1 : ∀ e, e < 13 → (W4 (0 * 13 + e)).natAbs ≤ 10 ^ 18 := fun e he => by
    rw [b4 _ (by omega), a3 e he]
    exact K1.sh (r := x) (by omega) he
  have c2 : ∀ e, e < 13 → (W4 (1 * 13 + e)).natAbs ≤ 10 ^ 18 := fun e he => by
    rw [a4 e he]
    exact K1.sh (r := y) (by omega) he
  have hj0 : 1 ≤ jdg W4 0 13 := by rw [jdg_congr (V := N) (p := x) 13 (fun e he => by rw [b4 _ (by omega), a3 e he])]; exact nzx
  have hl0 := jdg_le W4 0 13
  have hl1 := jdg_le W4 1 13
  iterate 2 refine mj_T.pl rfl rfl rfl rfl ?_
  refine mj_T.call (ins := .invokevirtual 114) rfl rfl (Nat.le_of_ble_eq_true rfl) (Nat.le_of_ble_eq_true rfl) (by simp [mj_recv, rS_f hs4]) rfl (mj_Ok.up (by decide) (jp_degreeOf (D := 0) (rG S1 N B T X) (p := 1) (by decide) hs4)) (fun v' h' hq' => ?_) (fun i h' hq' => by cases hq')
  cases hq'
  iterate 2 refine mj_T.pl rfl rfl rfl rfl ?_
  refine mj_T.call (ins := .invokevirtual 114) rfl rfl (Nat.le_of_ble_eq_true rfl) (Nat.le_of_ble_eq_true rfl) (by simp [mj_recv, rS_f hs4]) rfl (mj_Ok.up (by decide) (jp_degreeOf (D := 0) (rG S1 N B T X) (p := 0) (by decide) hs4)) (fun v' h' hq' => ?_) (fun i h' hq' => by cases hq')
  cases hq'
  have t93 : ∀ (V2 : Nat → Int) (g : mj_H), rS S1 N B T X V2 g → mj_T 39 mj_m262 93 [some (.ref 0), some (.int (jn (x : Int))), some (.int (jn (y : Int)))] [] g (rI tm er T) := fun V2 g hg => by
    refine mj_T.pl rfl rfl rfl rfl ?_
    exact mj_T.ret rfl rfl rfl ⟨0, g, ⟨by decide, by decide⟩, rfl, ⟨_, _, _, _, _, hg, K1⟩⟩
  refine mj_T.icmp (a := (jdg W4 1 13 : Int) - 1) (b := (jdg W4 0 13 : Int) - 1) rfl ⟨by omega, by omega⟩ ⟨by omega, by omega⟩ (fun hc => ?_) (fun hc => ?_)
  · exact t93 _ _ hs4
  iterate 4 refine mj_T.pl rfl rfl rfl rfl ?_
  refine mj_T.call (ins := .invokevirtual 155) rfl rfl (Nat.le_of_ble_eq_true rfl) (Nat.le_of_ble_eq_true rfl) (by simp [mj_recv, rS_f hs4]) rfl (mj_Ok.up (by decide) (jp_dividesExactly (D := 0) (V := W4) (rG S1 N B T X) (tq := 2) (a := 1) (b := 0) (db := jdg W4 0 13 - 1) (lc := W4 (0 * 13 + (jdg W4 0 13 - 1))) (al := 10 ^ 18) (be := 10 ^ 18) (by decide) (by decide) (by decide) (by decide) (by decide) (by decide) (by decide) (by decide) (by omega) rfl c2 c1 (by decide) (Nat.lt_of_le_of_lt (Nat.mul_le_mul_left _ (Nat.pow_le_pow_right (by decide) (by omega : _ ≤ 13))) rp_small4) hs4)) (fun v' g5 hq' => ?_) (fun i h' hq' => by obtain ⟨_, _, _, _, ⟨_, h⟩ | ⟨_, h⟩⟩ := hq' <;> cases h)
  obtain ⟨W5, _, hs5, _, ⟨_, hq'⟩ | ⟨_, hq'⟩⟩ := hq'
  · cases hq'
    refine mj_T.if0 (a := 1) rfl ⟨by decide, by decide⟩ (fun hc => ?_) (fun hc => ?_)
    · simp [jc] at hc
    iterate 2 refine mj_T.pl rfl rfl rfl rfl ?_
    exact mj_T.ret rfl rfl rfl ⟨1, _, ⟨by decide, by decide⟩, rfl, ⟨_, _, _, _, _, hs5, K1⟩⟩
  · cases hq'
    refine mj_T.if0 (a := 0) rfl ⟨by decide, by decide⟩ (fun hc => ?_) (fun hc => ?_)
    · exact t93 _ _ hs5
    · simp [jc] at hc
theorem rp_sm_loop {S N B X V : Nat → Int} {D x y : Nat} (hx : x ≤ 5) (hy : y ≤ 5) (hN : ∀ j, j < 78 → jR (N j)) (hs : rS S N B T X V h) {Q : mj_R → Prop} (q0 : Q (.inl (some (.int (jn 0))), h)) (q1 : Q (.inl (some (.int (jn 1))), h)) :
    ∀ (m k : Nat) (b : Int), k + m = 13 → (b = 0 ∨ b = 1) → mj_T D mj_m263 5 [some (.ref 0), some (.int (jn (x : Int))), some (.int (jn (y : Int))), some (.int (jn b)), some (.int (jn (k : Int)))] [] h Q := by
  intro m
  induction m with
  | zero =>
    intro k b hk hb
    have hk : k = 13 := by omega
    subst hk
    iterate 2 refine mj_T.pl rfl rfl rfl rfl ?_
    refine mj_T.icmp (a := ((13 : Nat) : Int)) (b := 13) rfl ⟨by decide, by decide⟩ ⟨by decide, by decide⟩ (fun hc => ?_) (fun hc => ?_)
    · refine mj_T.pl rfl rfl rfl rfl ?_
      rcases hb with q | q <;> subst q
      · exact mj_T.ret rfl rfl rfl q0
      · exact mj_T.ret rfl rfl rfl q1
    · simp [jc] at hc
  | succ m ih =>
    intro k b hk hb
    iterate 2 refine mj_T.pl rfl rfl rfl rfl ?_
    refine mj_T.icmp (a := (k : Int)) (b := 13) rfl ⟨by omega, by omega⟩ ⟨by decide, by decide⟩ (fun hc => ?_) (fun hc => ?_)
    · simp only [jc, decide_eq_true_eq] at hc
      omega
    have t49 : ∀ b2 : Int, (b2 = 0 ∨ b2 = 1) → mj_T D mj_m263 49 [some (.ref 0), some (.int (jn (x : Int))), some (.int (jn (y : Int))), some (.int (jn b)), some (.int (jn (k : Int)))] [.int (jn b2)] h Q := fun b2 hb2 => by
      refine mj_T.pl rfl rfl rfl rfl ?_
      refine mj_T.iinc (a := (k : Int)) rfl rfl ?_
      refine mj_T.pl rfl rfl rfl rfl ?_
      exact ih (k + 1) b2 (by omega) hb2
    refine mj_T.pl rfl rfl rfl rfl ?_
    refine mj_T.if0 (a := b) rfl ⟨by omega, by omega⟩ (fun hc2 => ?_) (fun hc2 => ?_)
    · refine mj_T.pl rfl rfl rfl rfl ?_
      exact t49 0 (Or.inl rfl)
    refine mj_T.pl rfl rfl rfl rfl ?_
    refine rT_get hs rfl rfl ?_
    iterate 2 refine mj_T.pl rfl rfl rfl rfl ?_
    refine mj_T.imul (a := (x : Int)) (b := 13) rfl ?_
    refine mj_T.pl rfl rfl rfl rfl ?_
    refine mj_T.iadd rfl ?_
    rw [show (x : Int) * 13 + (k : Int) = ((x * 13 + k : Nat) : Int) by omega]
    refine rT_ldN hs rfl ⟨by omega, by omega⟩ ?_
    rw [Int.toNat_natCast]
    refine mj_T.pl rfl rfl rfl rfl ?_
    refine rT_get hs rfl rfl ?_
    iterate 2 refine mj_T.pl rfl rfl rfl rfl ?_
    refine mj_T.imul (a := (y : Int)) (b := 13) rfl ?_
    refine mj_T.pl rfl rfl rfl rfl ?_
    refine mj_T.iadd rfl ?_
    rw [show (y : Int) * 13 + (k : Int) = ((y * 13 + k : Nat) : Int) by omega]
    refine rT_ldN hs rfl ⟨by omega, by omega⟩ ?_
    rw [Int.toNat_natCast]
    refine mj_T.lif (a := N (x * 13 + k)) (b := N (y * 13 + k)) rfl rfl (hN _ (by omega)) (hN _ (by omega)) (fun hc3 => ?_) (fun hc3 => ?_)
    · refine mj_T.pl rfl rfl rfl rfl ?_
      exact t49 0 (Or.inl rfl)
    · iterate 2 refine mj_T.pl rfl rfl rfl rfl ?_
      exact t49 1 (Or.inr rfl)
theorem rp_isSame {S N B X V : Nat → Int} {D x y : Nat} (hx : x ≤ 5) (hy : y ≤ 5) (hN : ∀ j, j < 78 → jR (N j)) (hs : rS S N B T X V h) : mj_Ok (D + 1) 263 [.ref 0, .int (jn (x : Int)), .int (jn (y : Int))] h (fun r => (True ∧ r = (.inl (some (.int (jn 0))), h)) ∨ (True ∧ r = (.inl (some (.int (jn 1))), h))) := by
  refine mj_Ok.of (M := mj_m263) rfl rfl rfl ?_
  iterate 4 refine mj_T.pl rfl rfl rfl rfl ?_
  exact rp_sm_loop (D := D) hx hy hN hs (Or.inl ⟨trivial, rfl⟩) (Or.inr ⟨trivial, rfl⟩) 13 0 1 (by omega) (Or.inr rfl)
theorem rp_areSame {x y : Int} (hx : jr x) (hy : jr y) (hI : jI tm er T h) : mj_Ok 40 264 [.ref 0, .int (jn x), .int (jn y)] h (rI tm er T) := by
  refine mj_Ok.of (M := mj_m264) rfl rfl rfl ?_
  obtain ⟨S, N, B, X, V, hs, K⟩ := hI
  have t19 : mj_T 39 mj_m264 19 [some (.ref 0), some (.int (jn x)), some (.int (jn y))] [.ref 0] h (rI tm er T) := by
    refine mj_T.pl rfl rfl rfl rfl ?_
    refine rT_put (v := 1) hs rfl rfl (by decide) rfl (fun g1 hs1 => ?_)
    refine mj_T.pl rfl rfl rfl rfl ?_
    refine rT_get (v := .int (jn 1)) hs1 rfl (by rw [← jvu_at S 3 1]; rfl) ?_
    refine mj_T.if0 (a := 1) rfl ⟨by decide, by decide⟩ (fun hc => ?_) (fun hc => ?_)
    rotate_left
    · simp [jc] at hc
    refine mj_T.pl rfl rfl rfl rfl ?_
    exact mj_T.ret rfl rfl rfl ⟨0, g1, ⟨by decide, by decide⟩, rfl, ⟨_, N, B, X, V, hs1, K.put ⟨by decide, by decide⟩ (by decide) (by decide) (by decide) (by decide) (by decide)⟩⟩
  refine mj_T.pl rfl rfl rfl rfl ?_
  refine mj_T.pl rfl rfl rfl rfl ?_
  refine mj_T.call (ins := .invokestatic 181) rfl rfl (Nat.le_of_ble_eq_true rfl) (Nat.le_of_ble_eq_true rfl) rfl rfl (mj_Ok.up (by decide) (rp_isRegister (D := 0) hx)) (fun v' h' hq' => ?_) (fun i h' hq' => by rcases hq' with ⟨_, _, h⟩ | ⟨_, h⟩ <;> cases h)
  rcases hq' with ⟨x1, x2, hq'⟩ | ⟨_, hq'⟩
  case' inr =>
    cases hq'
    refine mj_T.if0 (a := 0) rfl ⟨by decide, by decide⟩ (fun hc => ?_) (fun hc => ?_)
    · exact t19
    · simp [jc] at hc
  cases hq'
  refine mj_T.if0 (a := 1) rfl ⟨by decide, by decide⟩ (fun hc => ?_) (fun hc => ?_)
  · simp [jc] at hc
  refine mj_T.pl rfl rfl rfl rfl ?_
  refine mj_T.call (ins := .invokestatic 181) rfl rfl (Nat.le_of_ble_eq_true rfl) (Nat.le_of_ble_eq_true rfl) rfl rfl (mj_Ok.up (by decide) (rp_isRegister (D := 0) hy)) (fun v' h' hq' => ?_) (fun i h' hq' => by rcases hq' with ⟨_, _, h⟩ | ⟨_, h⟩ <;> cases h)
  rcases hq' with ⟨y1, y2, hq'⟩ | ⟨_, hq'⟩
  case' inr =>
    cases hq'
    refine mj_T.if0 (a := 0) rfl ⟨by decide, by decide⟩ (fun hc => ?_) (fun hc => ?_)
    · exact t19
    · simp [jc] at hc
  cases hq'
  refine mj_T.if0 (a := 1) rfl ⟨by decide, by decide⟩ (fun hc => ?_) (fun hc => ?_)
  · simp [jc] at hc
  clear t19
  iterate 2 refine mj_T.pl rfl rfl rfl rfl ?_
  refine rT_put (v := 0) hs rfl rfl (by decide) rfl (fun g1 hs1 => ?_)
  have K1 := K.put (k := 3) (v := 0) ⟨by decide, by decide⟩ (by decide) (by decide) (by decide) (by decide) (by decide)
  refine mj_T.pl rfl rfl rfl rfl ?_
  refine rT_get (v := .int (jn 0)) hs1 rfl (by rw [← jvu_at S 3 0]; rfl) ?_
  generalize jvu S 3 0 = S1 at hs1 K1
  refine mj_T.if0 (a := 0) rfl ⟨by decide, by decide⟩ (fun hc => ?_) (fun hc => ?_)
  · simp [jc] at hc
  obtain ⟨x, rfl⟩ := Int.eq_ofNat_of_zero_le x1
  obtain ⟨y, rfl⟩ := Int.eq_ofNat_of_zero_le y1
  iterate 3 refine mj_T.pl rfl rfl rfl rfl ?_
  refine mj_T.call (ins := .invokevirtual 311) rfl rfl (Nat.le_of_ble_eq_true rfl) (Nat.le_of_ble_eq_true rfl) (by simp [mj_recv, rS_f hs1]) rfl (mj_Ok.up (by decide) (rp_isSame (D := 0) (x := x) (y := y) (by omega) (by omega) K1.nR hs1)) (fun v' h' hq' => ?_) (fun i h' hq' => by rcases hq' with ⟨_, h⟩ | ⟨_, h⟩ <;> cases h)
  rcases hq' with ⟨_, hq'⟩ | ⟨_, hq'⟩
  · cases hq'
    refine mj_T.if0 (a := 0) rfl ⟨by decide, by decide⟩ (fun hc => ?_) (fun hc => ?_)
    rotate_left
    · simp [jc] at hc
    refine mj_T.pl rfl rfl rfl rfl ?_
    exact mj_T.ret rfl rfl rfl ⟨0, _, ⟨by decide, by decide⟩, rfl, ⟨_, _, _, _, _, hs1, K1⟩⟩
  · cases hq'
    refine mj_T.if0 (a := 1) rfl ⟨by decide, by decide⟩ (fun hc => ?_) (fun hc => ?_)
    · simp [jc] at hc
    iterate 2 refine mj_T.pl rfl rfl rfl rfl ?_
    exact mj_T.ret rfl rfl rfl ⟨1, _, ⟨by decide, by decide⟩, rfl, ⟨_, _, _, _, _, hs1, K1⟩⟩
end RPU
/-! Calls of the reference: agreements, told digits, common divisors, substitution, roots by a prime. -/
theorem jgk_le {V : Nat → Int} {p A : Nat} (h : ∀ e, e < 13 → (V (p * 13 + e)).natAbs ≤ A) : jgk V p 13 ≤ A := by
  by_cases c : ∃ e, e < 13 ∧ V (p * 13 + e) ≠ 0
  · obtain ⟨e, he, hne⟩ := c
    have h1 := jgk_dvd V p 13 e (Nat.le_refl _) (by omega) he
    exact Nat.le_trans (Nat.le_of_dvd (by omega) h1) (h e he)
  · rw [jgk_zero V p 13 (Nat.le_refl _) (fun e _ he => Classical.byContradiction fun q => c ⟨e, he, q⟩)]
    exact Nat.zero_le _
theorem gcd_le2 {a b A : Nat} (ha : a ≤ A) (hb : b ≤ A) : Nat.gcd a b ≤ A := by
  rcases Nat.eq_zero_or_pos a with e | e
  · rw [e, Nat.gcd_zero_left]
    exact hb
  · exact Nat.le_trans (Nat.gcd_le_left _ e) ha
theorem rp_small5 : kq_F (10 ^ 18) 24 * 10 ^ 18 < jB ^ 698 := by decide +kernel
theorem rp_small6 : (170 * 10 ^ 18) ^ 13 * (170 * 10 ^ 18) < jB ^ 698 := by decide +kernel
section RPU
variable {h : mj_H} {tm er : Int} {T : Nat → Int}
theorem rp_compares {S N B X V : Nat → Int} {a b : Nat} (ha : a < 665) (hb : b < 665) (hs : rS S N B T X V h) : mj_Ok 39 185 [.ref 0, .int (jn (a : Nat)), .int (jn (b : Nat))] h (fun r => ∃ z : Int, (-1 ≤ z ∧ z ≤ 1) ∧ r = (.inl (some (.int (jn z))), h)) := by
  refine mj_Ok.of (M := mj_m185) rfl rfl rfl ?_
  have ra := jsg_range (V a)
  have rb := jsg_range (V b)
  have rc := jcm_range (V a).natAbs (V b).natAbs
  iterate 2 refine mj_T.pl rfl rfl rfl rfl ?_
  refine mj_T.call (ins := .invokevirtual 68) rfl rfl (Nat.le_of_ble_eq_true rfl) (Nat.le_of_ble_eq_true rfl) (by simp [mj_recv, rS_f hs]) rfl (mj_Ok.up (by decide) (jS_sign (D := 0) (rG S N B T X) (s := a) ha hs)) (fun v' h' hq' => ?_) (fun i h' hq' => by cases hq')
  cases hq'
  iterate 2 refine mj_T.pl rfl rfl rfl rfl ?_
  refine mj_T.call (ins := .invokevirtual 68) rfl rfl (Nat.le_of_ble_eq_true rfl) (Nat.le_of_ble_eq_true rfl) (by simp [mj_recv, rS_f hs]) rfl (mj_Ok.up (by decide) (jS_sign (D := 0) (rG S N B T X) (s := b) hb hs)) (fun v' h' hq' => ?_) (fun i h' hq' => by cases hq')
  cases hq'
  refine mj_T.icmp (a := jsg (V a)) (b := jsg (V b)) rfl ⟨by omega, by omega⟩ ⟨by omega, by omega⟩ (fun hc => ?_) (fun hc => ?_)
  · skip
    iterate 2 refine mj_T.pl rfl rfl rfl rfl ?_
    refine mj_T.call (ins := .invokevirtual 68) rfl rfl (Nat.le_of_ble_eq_true rfl) (Nat.le_of_ble_eq_true rfl) (by simp [mj_recv, rS_f hs]) rfl (mj_Ok.up (by decide) (jS_sign (D := 0) (rG S N B T X) (s := a) ha hs)) (fun v' h' hq' => ?_) (fun i h' hq' => by cases hq')
    cases hq'
    iterate 3 refine mj_T.pl rfl rfl rfl rfl ?_
    refine mj_T.call (ins := .invokevirtual 71) rfl rfl (Nat.le_of_ble_eq_true rfl) (Nat.le_of_ble_eq_true rfl) (by simp [mj_recv, rS_f hs]) rfl (mj_Ok.up (by decide) (jS_cmp (D := 0) (rG S N B T X) (s := a) (t := b) ha hb hs)) (fun v' h' hq' => ?_) (fun i h' hq' => by cases hq')
    cases hq'
    refine mj_T.imul rfl ?_
    refine mj_T.ret rfl rfl rfl ⟨_, ?_, rfl⟩
    rcases (show jsg (V a) = -1 ∨ jsg (V a) = 0 ∨ jsg (V a) = 1 by omega) with q | q | q <;> rw [q] <;> omega
  · skip
    iterate 2 refine mj_T.pl rfl rfl rfl rfl ?_
    refine mj_T.call (ins := .invokevirtual 68) rfl rfl (Nat.le_of_ble_eq_true rfl) (Nat.le_of_ble_eq_true rfl) (by simp [mj_recv, rS_f hs]) rfl (mj_Ok.up (by decide) (jS_sign (D := 0) (rG S N B T X) (s := a) ha hs)) (fun v' h' hq' => ?_) (fun i h' hq' => by cases hq')
    cases hq'
    iterate 2 refine mj_T.pl rfl rfl rfl rfl ?_
    refine mj_T.call (ins := .invokevirtual 68) rfl rfl (Nat.le_of_ble_eq_true rfl) (Nat.le_of_ble_eq_true rfl) (by simp [mj_recv, rS_f hs]) rfl (mj_Ok.up (by decide) (jS_sign (D := 0) (rG S N B T X) (s := b) hb hs)) (fun v' h' hq' => ?_) (fun i h' hq' => by cases hq')
    cases hq'
    refine mj_T.icmp (a := jsg (V a)) (b := jsg (V b)) rfl ⟨by omega, by omega⟩ ⟨by omega, by omega⟩ (fun hc => ?_) (fun hc => ?_)
    · refine mj_T.pl rfl rfl rfl rfl ?_
      exact mj_T.ret rfl rfl rfl ⟨1, by decide, rfl⟩
    · iterate 2 refine mj_T.pl rfl rfl rfl rfl ?_
      exact mj_T.ret rfl rfl rfl ⟨-1, by decide, rfl⟩
theorem rp_ag_loop {S N B X : Nat → Int} {x y : Int} {d : Nat} (hd : d ≤ 12) (K : jK tm er S N B T) :
    ∀ (m k c : Nat) (V : Nat → Int) (h : mj_H) (e6 : Option Value), k + m = d + 1 → c ≤ k → rS S N B T X V h → (∀ e, e < 13 → (V (0 * 13 + e)).natAbs ≤ 10 ^ 18) → (∀ e, e < 13 → (V (1 * 13 + e)).natAbs ≤ 10 ^ 18) → mj_T 39 mj_m265 61 [some (.ref 0), some (.int (jn x)), some (.int (jn y)), some (.int (jn (d : Int))), some (.int (jn (c : Int))), some (.int (jn (k : Int))), e6] [] h (rI tm er T) := by
  intro m
  induction m with
  | zero =>
    intro k c V h e6 hk hc hs c1 c2
    iterate 2 refine mj_T.pl rfl rfl rfl rfl ?_
    refine mj_T.icmp (a := (k : Int)) (b := (d : Int)) rfl ⟨by omega, by omega⟩ ⟨by omega, by omega⟩ (fun hc => ?_) (fun hc => ?_)
    · refine mj_T.pl rfl rfl rfl rfl ?_
      exact mj_T.ret rfl rfl rfl ⟨(c : Int), h, ⟨by omega, by omega⟩, rfl, ⟨_, _, _, _, _, hs, K⟩⟩
    · simp only [jc, decide_eq_false_iff_not] at hc
      omega
  | succ m ih =>
    intro k c V h e6 hk hc hs c1 c2
    iterate 2 refine mj_T.pl rfl rfl rfl rfl ?_
    refine mj_T.icmp (a := (k : Int)) (b := (d : Int)) rfl ⟨by omega, by omega⟩ ⟨by omega, by omega⟩ (fun hc => ?_) (fun hc => ?_)
    · simp only [jc, decide_eq_true_eq] at hc
      omega
    iterate 3 refine mj_T.pl rfl rfl rfl rfl ?_
    refine mj_T.call (ins := .invokevirtual 305) rfl rfl (Nat.le_of_ble_eq_true rfl) (Nat.le_of_ble_eq_true rfl) (by simp [mj_recv, rS_f hs]) rfl (mj_Ok.up (by decide) (rp_setsFraction (D := 0) (x := (k : Int)) (y := 1) ⟨by omega, by omega⟩ ⟨by decide, by decide⟩ hs)) (fun v' g1 hq' => ?_) (fun i h' hq' => by obtain ⟨_, _, _, _, _, _, h⟩ := hq'; cases h)
    obtain ⟨W1, _, hs1, x1a, x1b, x1c, hq'⟩ := hq'
    cases hq'
    iterate 2 refine mj_T.pl rfl rfl rfl rfl ?_
    refine mj_T.call (ins := .invokevirtual 162) rfl rfl (Nat.le_of_ble_eq_true rfl) (Nat.le_of_ble_eq_true rfl) (by simp [mj_recv, rS_f hs1]) rfl (mj_Ok.up (by decide) (jp_valueAt (D := 0) (V := W1) (p := 0) (rG S N B T X) (by decide) (C := 10 ^ 18) (x := 1000) (fun e he => by rw [x1c _ (by omega) (by omega)]; exact c1 e he) (by rw [x1a]; omega) (by rw [x1b]; decide) (by decide) rp_fitv rp_fitv2 hs1)) (fun v' g2 hq' => ?_) (fun i h' hq' => by obtain ⟨_, _, _, _, _, _, _, h⟩ := hq'; cases h)
    obtain ⟨W2, _, hs2, f1, _, _, _, hq'⟩ := hq'
    cases hq'
    iterate 4 refine mj_T.pl rfl rfl rfl rfl ?_
    refine mj_T.call (ins := .invokevirtual 84) rfl rfl (Nat.le_of_ble_eq_true rfl) (Nat.le_of_ble_eq_true rfl) (by simp [mj_recv, rS_f hs2]) rfl (mj_Ok.up (by decide) (jS_copies (D := 0) (rG S N B T X) (to := 661) (s := 659) (by decide) (by decide) hs2)) (fun v' g3 hq' => ?_) (fun i h' hq' => by obtain ⟨_, _, h⟩ := hq'; cases h)
    obtain ⟨_, hs3, hq'⟩ := hq'
    cases hq'
    have f2 : ∀ s, s ≠ 661 → jvu W2 661 (W2 659) s = W2 s := fun s hne => jvu_ne _ _ _ hne
    generalize jvu W2 661 (W2 659) = W3 at hs3 f2
    iterate 2 refine mj_T.pl rfl rfl rfl rfl ?_
    refine mj_T.call (ins := .invokevirtual 162) rfl rfl (Nat.le_of_ble_eq_true rfl) (Nat.le_of_ble_eq_true rfl) (by simp [mj_recv, rS_f hs3]) rfl (mj_Ok.up (by decide) (jp_valueAt (D := 0) (V := W3) (p := 1) (rG S N B T X) (by decide) (C := 10 ^ 18) (x := 1000) (fun e he => by rw [f2 _ (by omega), f1 _ (by omega) (by omega) (by omega), x1c _ (by omega) (by omega)]; exact c2 e he) (by rw [f2 _ (by decide), f1 _ (by decide) (by decide) (by decide), x1a]; omega) (by rw [f2 _ (by decide), f1 _ (by decide) (by decide) (by decide), x1b]; decide) (by decide) rp_fitv rp_fitv2 hs3)) (fun v' g4 hq' => ?_) (fun i h' hq' => by obtain ⟨_, _, _, _, _, _, _, h⟩ := hq'; cases h)
    obtain ⟨W4, _, hs4, f3, _, _, _, hq'⟩ := hq'
    cases hq'
    iterate 5 refine mj_T.pl rfl rfl rfl rfl ?_
    refine mj_T.call (ins := .invokevirtual 314) rfl rfl (Nat.le_of_ble_eq_true rfl) (Nat.le_of_ble_eq_true rfl) (by simp [mj_recv, rS_f hs4]) rfl (mj_Ok.up (by decide) (rp_compares (a := 661) (b := 659) (by decide) (by decide) hs4)) (fun v' h' hq' => ?_) (fun i h' hq' => by obtain ⟨_, _, h⟩ := hq'; cases h)
    obtain ⟨z, hz, hq'⟩ := hq'
    cases hq'
    refine mj_T.if0 (a := z) rfl ⟨by omega, by omega⟩ (fun hc2 => ?_) (fun hc2 => ?_)
    · skip
      refine mj_T.pl rfl rfl rfl rfl ?_
      refine mj_T.iadd (a := (c : Int)) (b := 0) rfl ?_
      rw [show (c : Int) + 0 = ((c + 0 : Nat) : Int) by omega]
      refine mj_T.pl rfl rfl rfl rfl ?_
      refine mj_T.iinc (a := (k : Int)) rfl rfl ?_
      refine mj_T.pl rfl rfl rfl rfl ?_
      exact ih (k + 1) (c + 0) _ _ _ (by omega) (by omega) hs4 (fun e he => by rw [f3 _ (by omega) (by omega) (by omega), f2 _ (by omega), f1 _ (by omega) (by omega) (by omega), x1c _ (by omega) (by omega)]; exact c1 e he) (fun e he => by rw [f3 _ (by omega) (by omega) (by omega), f2 _ (by omega), f1 _ (by omega) (by omega) (by omega), x1c _ (by omega) (by omega)]; exact c2 e he)
    · skip
      iterate 2 refine mj_T.pl rfl rfl rfl rfl ?_
      refine mj_T.iadd (a := (c : Int)) (b := 1) rfl ?_
      rw [show (c : Int) + 1 = ((c + 1 : Nat) : Int) by omega]
      refine mj_T.pl rfl rfl rfl rfl ?_
      refine mj_T.iinc (a := (k : Int)) rfl rfl ?_
      refine mj_T.pl rfl rfl rfl rfl ?_
      exact ih (k + 1) (c + 1) _ _ _ (by omega) (by omega) hs4 (fun e he => by rw [f3 _ (by omega) (by omega) (by omega), f2 _ (by omega), f1 _ (by omega) (by omega) (by omega), x1c _ (by omega) (by omega)]; exact c1 e he) (fun e he => by rw [f3 _ (by omega) (by omega) (by omega), f2 _ (by omega), f1 _ (by omega) (by omega) (by omega), x1c _ (by omega) (by omega)]; exact c2 e he)
theorem rp_agreements {x y : Int} (hx : jr x) (hy : jr y) (hI : jI tm er T h) : mj_Ok 40 265 [.ref 0, .int (jn x), .int (jn y)] h (rI tm er T) := by
  refine mj_Ok.of (M := mj_m265) rfl rfl rfl ?_
  obtain ⟨S, N, B, X, V, hs, K⟩ := hI
  iterate 2 refine mj_T.pl rfl rfl rfl rfl ?_
  refine rT_put (v := 0) hs rfl rfl (by decide) rfl (fun g5 hs5 => ?_)
  have K5 := K.put (k := 3) (v := 0) ⟨by decide, by decide⟩ (by decide) (by decide) (by decide) (by decide) (by decide)
  generalize jvu S 3 0 = S5 at hs5 K5
  have t19 : mj_T 39 mj_m265 19 [some (.ref 0), some (.int (jn x)), some (.int (jn y)), none, none, none, none] [] g5 (rI tm er T) := by
    iterate 2 refine mj_T.pl rfl rfl rfl rfl ?_
    refine mj_T.call (ins := .invokevirtual 198) rfl rfl (Nat.le_of_ble_eq_true rfl) (Nat.le_of_ble_eq_true rfl) (by simp [mj_recv, rS_f hs5]) rfl (mj_Ok.up (by decide) (rp_fails (D := 0) (c := 1) hs5)) (fun v' g6 hq' => ?_) (fun i h' hq' => by obtain ⟨_, _, h⟩ := hq'; cases h)
    obtain ⟨_, hs6, hq'⟩ := hq'
    cases hq'
    exact mj_T.ret rfl rfl rfl ⟨0, g6, ⟨by decide, by decide⟩, rfl, ⟨_, N, B, X, V, hs6, K5.put ⟨by decide, by decide⟩ (by decide) (by decide) (by decide) (by decide) (by decide)⟩⟩
  refine mj_T.pl rfl rfl rfl rfl ?_
  refine mj_T.call (ins := .invokestatic 181) rfl rfl (Nat.le_of_ble_eq_true rfl) (Nat.le_of_ble_eq_true rfl) rfl rfl (mj_Ok.up (by decide) (rp_isRegister (D := 0) hx)) (fun v' h' hq' => ?_) (fun i h' hq' => by rcases hq' with ⟨_, _, h⟩ | ⟨_, h⟩ <;> cases h)
  rcases hq' with ⟨x1, x2, hq'⟩ | ⟨_, hq'⟩
  case' inr =>
    cases hq'
    refine mj_T.if0 (a := 0) rfl ⟨by decide, by decide⟩ (fun hc => ?_) (fun hc => ?_)
    · exact t19
    · simp [jc] at hc
  cases hq'
  refine mj_T.if0 (a := 1) rfl ⟨by decide, by decide⟩ (fun hc => ?_) (fun hc => ?_)
  · simp [jc] at hc
  refine mj_T.pl rfl rfl rfl rfl ?_
  refine mj_T.call (ins := .invokestatic 181) rfl rfl (Nat.le_of_ble_eq_true rfl) (Nat.le_of_ble_eq_true rfl) rfl rfl (mj_Ok.up (by decide) (rp_isRegister (D := 0) hy)) (fun v' h' hq' => ?_) (fun i h' hq' => by rcases hq' with ⟨_, _, h⟩ | ⟨_, h⟩ <;> cases h)
  rcases hq' with ⟨y1, y2, hq'⟩ | ⟨_, hq'⟩
  case' inr =>
    cases hq'
    refine mj_T.if0 (a := 0) rfl ⟨by decide, by decide⟩ (fun hc => ?_) (fun hc => ?_)
    · simp [jc] at hc
    · exact t19
  cases hq'
  refine mj_T.if0 (a := 1) rfl ⟨by decide, by decide⟩ (fun hc => ?_) (fun hc => ?_)
  rotate_left
  · simp [jc] at hc
  clear t19
  obtain ⟨x, rfl⟩ := Int.eq_ofNat_of_zero_le x1
  obtain ⟨y, rfl⟩ := Int.eq_ofNat_of_zero_le y1
  iterate 3 refine mj_T.pl rfl rfl rfl rfl ?_
  refine mj_T.call (ins := .invokevirtual 213) rfl rfl (Nat.le_of_ble_eq_true rfl) (Nat.le_of_ble_eq_true rfl) (by simp [mj_recv, rS_f hs5]) rfl (mj_Ok.up (by decide) (rp_loads (D := 0) (p := 0) (r := x) (by decide) (by omega) K5.nR hs5)) (fun v' g7 hq' => ?_) (fun i h' hq' => by obtain ⟨_, _, h⟩ := hq'; cases h)
  obtain ⟨_, hs7, hq'⟩ := hq'
  cases hq'
  have a7 : ∀ e, e < 13 → jfl V 0 (fun e => N (x * 13 + e)) 13 (0 * 13 + e) = N (x * 13 + e) := fun e he => jfl_at _ _ _ he
  have b7 : ∀ s, (s < 0 * 13 ∨ 0 * 13 + 13 ≤ s) → jfl V 0 (fun e => N (x * 13 + e)) 13 s = V s := fun s hc => jfl_off _ _ _ hc
  generalize jfl V 0 (fun e => N (x * 13 + e)) 13 = W7 at hs7 a7 b7
  iterate 3 refine mj_T.pl rfl rfl rfl rfl ?_
  refine mj_T.call (ins := .invokevirtual 213) rfl rfl (Nat.le_of_ble_eq_true rfl) (Nat.le_of_ble_eq_true rfl) (by simp [mj_recv, rS_f hs7]) rfl (mj_Ok.up (by decide) (rp_loads (D := 0) (p := 1) (r := y) (by decide) (by omega) K5.nR hs7)) (fun v' g8 hq' => ?_) (fun i h' hq' => by obtain ⟨_, _, h⟩ := hq'; cases h)
  obtain ⟨_, hs8, hq'⟩ := hq'
  cases hq'
  have a8 : ∀ e, e < 13 → jfl W7 1 (fun e => N (y * 13 + e)) 13 (1 * 13 + e) = N (y * 13 + e) := fun e he => jfl_at _ _ _ he
  have b8 : ∀ s, (s < 1 * 13 ∨ 1 * 13 + 13 ≤ s) → jfl W7 1 (fun e => N (y * 13 + e)) 13 s = W7 s := fun s hc => jfl_off _ _ _ hc
  generalize jfl W7 1 (fun e => N (y * 13 + e)) 13 = W8 at hs8 a8 b8
  have c1 : ∀ e, e < 13 → (W8 (0 * 13 + e)).natAbs ≤ 10 ^ 18 := fun e he => by
    rw [b8 _ (by omega), a7 e he]
    exact K5.sh (r := x) (by omega) he
  have c2 : ∀ e, e < 13 → (W8 (1 * 13 + e)).natAbs ≤ 10 ^ 18 := fun e he => by
    rw [a8 e he]
    exact K5.sh (r := y) (by omega) he
  have hl0 := jdg_le W8 0 13
  have hl1 := jdg_le W8 1 13
  iterate 3 refine mj_T.pl rfl rfl rfl rfl ?_
  refine mj_T.call (ins := .invokevirtual 114) rfl rfl (Nat.le_of_ble_eq_true rfl) (Nat.le_of_ble_eq_true rfl) (by simp [mj_recv, rS_f hs8]) rfl (mj_Ok.up (by decide) (jp_degreeOf (D := 0) (rG S5 N B T X) (p := 0) (by decide) hs8)) (fun v' h' hq' => ?_) (fun i h' hq' => by cases hq')
  cases hq'
  iterate 2 refine mj_T.pl rfl rfl rfl rfl ?_
  refine mj_T.call (ins := .invokevirtual 114) rfl rfl (Nat.le_of_ble_eq_true rfl) (Nat.le_of_ble_eq_true rfl) (by simp [mj_recv, rS_f hs8]) rfl (mj_Ok.up (by decide) (jp_degreeOf (D := 0) (rG S5 N B T X) (p := 1) (by decide) hs8)) (fun v' h' hq' => ?_) (fun i h' hq' => by cases hq')
  cases hq'
  refine mj_T.imax (a := (jdg W8 0 13 : Int) - 1) (b := (jdg W8 1 13 : Int) - 1) rfl rfl (Nat.le_of_ble_eq_true rfl) ⟨by omega, by omega⟩ ⟨by omega, by omega⟩ ?_
  obtain ⟨mx, hmx⟩ : ∃ mx, mx = max ((jdg W8 0 13 : Int) - 1) ((jdg W8 1 13 : Int) - 1) := ⟨_, rfl⟩
  rw [← hmx]
  have hmx2 : -1 ≤ mx ∧ mx ≤ 12 := by omega
  refine mj_T.imax (a := 0) (b := mx) rfl rfl (Nat.le_of_ble_eq_true rfl) ⟨by decide, by decide⟩ ⟨by omega, by omega⟩ ?_
  obtain ⟨d, hd⟩ : ∃ d : Nat, max 0 mx = (d : Int) := Int.eq_ofNat_of_zero_le (by omega)
  rw [hd]
  iterate 5 refine mj_T.pl rfl rfl rfl rfl ?_
  exact rp_ag_loop (d := d) (by omega) K5 (d + 1) 0 0 _ _ none (by omega) (by decide) hs8 c1 c2
theorem rp_told {b : Int} (hb : jr b) : mj_Ok 39 266 [.int (jn b)] h (fun r => ∃ s : Nat, (s = 650 ∨ s = 651) ∧ r = (.inl (some (.int (jn (s : Int)))), h)) := by
  refine mj_Ok.of (M := mj_m266) rfl rfl rfl ?_
  refine mj_T.pl rfl rfl rfl rfl ?_
  refine mj_T.if0 (a := b) rfl hb (fun hc => ?_) (fun hc => ?_)
  · refine mj_T.pl rfl rfl rfl rfl ?_
    exact mj_T.ret rfl rfl rfl ⟨650, Or.inl rfl, rfl⟩
  · iterate 2 refine mj_T.pl rfl rfl rfl rfl ?_
    exact mj_T.ret rfl rfl rfl ⟨651, Or.inr rfl, rfl⟩
theorem rp_dg_loop {D s n : Nat} {Q : mj_R → Prop} (hend : ∀ c : Nat, c ≤ 6300 → Q (.inl (some (.int (jn (c : Int)))), h)) :
    ∀ (m c v : Nat), c + m ≤ 6300 → v < 10 ^ m → v < 1000000000 → mj_T D mj_m267 29 [some (.ref 0), some (.int (jn (s : Int))), some (.int (jn (n : Int))), some (.int (jn (c : Int))), some (.int (jn (v : Int)))] [] h Q := by
  intro m
  induction m with
  | zero =>
    intro c v hc hv hv2
    have hv0 : v = 0 := by rw [Nat.pow_zero] at hv; omega
    subst hv0
    refine mj_T.pl rfl rfl rfl rfl ?_
    refine mj_T.if0 (a := ((0 : Nat) : Int)) rfl ⟨by decide, by decide⟩ (fun hc2 => ?_) (fun hc2 => ?_)
    · refine mj_T.pl rfl rfl rfl rfl ?_
      exact mj_T.ret rfl rfl rfl (hend c (by omega))
    · simp [jc] at hc2
  | succ m ih =>
    intro c v hc hv hv2
    refine mj_T.pl rfl rfl rfl rfl ?_
    refine mj_T.if0 (a := (v : Int)) rfl ⟨by omega, by omega⟩ (fun hc2 => ?_) (fun hc2 => ?_)
    · refine mj_T.pl rfl rfl rfl rfl ?_
      exact mj_T.ret rfl rfl rfl (hend c (by omega))
    refine mj_T.iinc (a := (c : Int)) rfl rfl ?_
    iterate 2 refine mj_T.pl rfl rfl rfl rfl ?_
    refine mj_T.idiv (a := (v : Int)) (b := 10) rfl ⟨by omega, by omega⟩ ⟨by decide, by decide⟩ (by decide) ?_
    rw [show (v : Int).tdiv 10 = ((v / 10 : Nat) : Int) from rfl]
    iterate 2 refine mj_T.pl rfl rfl rfl rfl ?_
    exact ih (c + 1) (v / 10) (by omega) (by rw [Nat.pow_succ] at hv; omega) (by omega)
theorem rp_digitsOf {S N B X V : Nat → Int} {s : Nat} (hl : s < 665) (hs : rS S N B T X V h) : mj_Ok 39 267 [.ref 0, .int (jn (s : Int))] h (fun r => ∃ c : Nat, c ≤ 6300 ∧ r = (.inl (some (.int (jn (c : Int)))), h)) := by
  have h7 := jS_700 hs hl
  have hlb := jlb_lt (V s).natAbs (jnl (V s).natAbs - 1)
  refine mj_Ok.of (M := mj_m267) rfl rfl rfl ?_
  iterate 2 refine mj_T.pl rfl rfl rfl rfl ?_
  refine mj_T.call (ins := .invokevirtual 52) rfl rfl (Nat.le_of_ble_eq_true rfl) (Nat.le_of_ble_eq_true rfl) (by simp [mj_recv, rS_f hs]) rfl (mj_Ok.up (by decide) (jS_length (D := 0) (rG S N B T X) (s := s) hl hs)) (fun v' h' hq' => ?_) (fun i h' hq' => by cases hq')
  cases hq'
  iterate 2 refine mj_T.pl rfl rfl rfl rfl ?_
  refine mj_T.if0 (a := ((jnl (V s).natAbs : Nat) : Int)) rfl ⟨by omega, by omega⟩ (fun hc => ?_) (fun hc => ?_)
  rotate_left
  · refine mj_T.pl rfl rfl rfl rfl ?_
    exact mj_T.ret rfl rfl rfl ⟨1, by decide, rfl⟩
  simp only [jc, Bool.not_eq_true', decide_eq_false_iff_not] at hc
  obtain ⟨n, hn⟩ : ∃ n, jnl (V s).natAbs = n + 1 := ⟨jnl (V s).natAbs - 1, by omega⟩
  rw [hn, Nat.add_sub_cancel] at hlb
  rw [hn]
  iterate 3 refine mj_T.pl rfl rfl rfl rfl ?_
  refine mj_T.isub (a := ((n + 1 : Nat) : Int)) (b := 1) rfl ?_
  rw [show ((n + 1 : Nat) : Int) - 1 = (n : Int) by omega]
  refine mj_T.imul (a := 9) (b := (n : Int)) rfl ?_
  rw [show 9 * (n : Int) = ((9 * n : Nat) : Int) by omega]
  iterate 5 refine mj_T.pl rfl rfl rfl rfl ?_
  refine mj_T.isub (a := ((n + 1 : Nat) : Int)) (b := 1) rfl ?_
  rw [show ((n + 1 : Nat) : Int) - 1 = (n : Int) by omega]
  refine mj_T.call (ins := .invokevirtual 64) rfl rfl (Nat.le_of_ble_eq_true rfl) (Nat.le_of_ble_eq_true rfl) (by simp [mj_recv, rS_f hs]) rfl (mj_Ok.up (by decide) (jS_limb (D := 0) (rG S N B T X) (s := s) (j := n) hl (by omega) hs)) (fun v' h' hq' => ?_) (fun i h' hq' => by cases hq')
  cases hq'
  refine mj_T.pl rfl rfl rfl rfl ?_
  exact rp_dg_loop (fun c hc => ⟨c, hc, rfl⟩) 9 (9 * n) _ (by omega) hlb hlb
theorem rp_digits {x : Int} (hx : jr x) (hI : jI tm er T h) : mj_Ok 40 268 [.ref 0, .int (jn x)] h (rI tm er T) := by
  refine mj_Ok.of (M := mj_m268) rfl rfl rfl ?_
  obtain ⟨S, N, B, X, V, hs, K⟩ := hI
  iterate 2 refine mj_T.pl rfl rfl rfl rfl ?_
  refine rT_put (v := 0) hs rfl rfl (by decide) rfl (fun g9 hs9 => ?_)
  have K9 := K.put (k := 3) (v := 0) ⟨by decide, by decide⟩ (by decide) (by decide) (by decide) (by decide) (by decide)
  generalize jvu S 3 0 = S9 at hs9 K9
  iterate 2 refine mj_T.pl rfl rfl rfl rfl ?_
  refine mj_T.call (ins := .invokestatic 317) rfl rfl (Nat.le_of_ble_eq_true rfl) (Nat.le_of_ble_eq_true rfl) rfl rfl (mj_Ok.up (by decide) (rp_told hx)) (fun v' h' hq' => ?_) (fun i h' hq' => by obtain ⟨_, _, h⟩ := hq'; cases h)
  obtain ⟨s, hst, hq'⟩ := hq'
  cases hq'
  refine mj_T.call (ins := .invokevirtual 321) rfl rfl (Nat.le_of_ble_eq_true rfl) (Nat.le_of_ble_eq_true rfl) (by simp [mj_recv, rS_f hs9]) rfl (mj_Ok.up (by decide) (rp_digitsOf (s := s) (by omega) hs9)) (fun v' h' hq' => ?_) (fun i h' hq' => by obtain ⟨_, _, h⟩ := hq'; cases h)
  obtain ⟨c, hc9, hq'⟩ := hq'
  cases hq'
  exact mj_T.ret rfl rfl rfl ⟨(c : Int), g9, ⟨by omega, by omega⟩, rfl, ⟨S9, N, B, X, V, hs9, K9⟩⟩
theorem rp_low {x : Int} (hx : jr x) (hI : jI tm er T h) : mj_Ok 40 270 [.ref 0, .int (jn x)] h (rJ tm er T) := by
  refine mj_Ok.of (M := mj_m270) rfl rfl rfl ?_
  obtain ⟨S, N, B, X, V, hs, K⟩ := hI
  iterate 2 refine mj_T.pl rfl rfl rfl rfl ?_
  refine rT_put (v := 0) hs rfl rfl (by decide) rfl (fun g10 hs10 => ?_)
  have K10 := K.put (k := 3) (v := 0) ⟨by decide, by decide⟩ (by decide) (by decide) (by decide) (by decide) (by decide)
  generalize jvu S 3 0 = S10 at hs10 K10
  iterate 2 refine mj_T.pl rfl rfl rfl rfl ?_
  refine mj_T.call (ins := .invokestatic 317) rfl rfl (Nat.le_of_ble_eq_true rfl) (Nat.le_of_ble_eq_true rfl) rfl rfl (mj_Ok.up (by decide) (rp_told hx)) (fun v' h' hq' => ?_) (fun i h' hq' => by obtain ⟨_, _, h⟩ := hq'; cases h)
  obtain ⟨s, hst, hq'⟩ := hq'
  cases hq'
  refine mj_T.call (ins := .invokevirtual 191) rfl rfl (Nat.le_of_ble_eq_true rfl) (Nat.le_of_ble_eq_true rfl) (by simp [mj_recv, rS_f hs10]) rfl (mj_Ok.up (by decide) (rp_asLong (D := 0) (s := s) (by omega) hs10)) (fun v' h' hq' => ?_) (fun i h' hq' => by cases hq')
  cases hq'
  exact mj_T.ret rfl rfl rfl ⟨_, _, rfl, ⟨_, _, _, _, _, hs10, K10⟩⟩
theorem rp_dt_loop {S N B X V : Nat → Int} {x y : Int} {s : Nat} (K : jK tm er S N B T) (hs : rS S N B T X V h) :
    ∀ (m v : Nat), m ≤ 8 → v < 1000000000 → mj_T 39 mj_m269 50 [some (.ref 0), some (.int (jn x)), some (.int (jn y)), some (.int (jn (s : Int))), some (.int (jn (v : Int))), some (.int (jn (m : Int)))] [] h (rI tm er T) := by
  intro m
  induction m with
  | zero =>
    intro v hm hv
    refine mj_T.pl rfl rfl rfl rfl ?_
    refine mj_T.if0 (a := ((0 : Nat) : Int)) rfl ⟨by decide, by decide⟩ (fun hc2 => ?_) (fun hc2 => ?_)
    · iterate 2 refine mj_T.pl rfl rfl rfl rfl ?_
      refine mj_T.irem (a := (v : Int)) (b := 10) rfl ⟨by omega, by omega⟩ ⟨by decide, by decide⟩ (by decide) ?_
      rw [show (v : Int).tmod 10 = ((v % 10 : Nat) : Int) from rfl]
      exact mj_T.ret rfl rfl rfl ⟨_, h, ⟨by omega, by omega⟩, rfl, ⟨_, _, _, _, _, hs, K⟩⟩
    · simp [jc] at hc2
  | succ m ih =>
    intro v hm hv
    refine mj_T.pl rfl rfl rfl rfl ?_
    refine mj_T.if0 (a := ((m + 1 : Nat) : Int)) rfl ⟨by omega, by omega⟩ (fun hc2 => ?_) (fun hc2 => ?_)
    · simp only [jc, decide_eq_true_eq] at hc2
      omega
    iterate 2 refine mj_T.pl rfl rfl rfl rfl ?_
    refine mj_T.idiv (a := (v : Int)) (b := 10) rfl ⟨by omega, by omega⟩ ⟨by decide, by decide⟩ (by decide) ?_
    rw [show (v : Int).tdiv 10 = ((v / 10 : Nat) : Int) from rfl]
    refine mj_T.pl rfl rfl rfl rfl ?_
    refine mj_T.iinc (a := ((m + 1 : Nat) : Int)) rfl rfl ?_
    refine mj_T.pl rfl rfl rfl rfl ?_
    rw [show ((m + 1 : Nat) : Int) + -1 = (m : Int) by omega]
    exact ih (v / 10) (by omega) (by omega)
theorem rp_digit {x y : Int} (hx : jr x) (hy : jr y) (hI : jI tm er T h) : mj_Ok 40 269 [.ref 0, .int (jn x), .int (jn y)] h (rI tm er T) := by
  refine mj_Ok.of (M := mj_m269) rfl rfl rfl ?_
  obtain ⟨S, N, B, X, V, hs, K⟩ := hI
  iterate 2 refine mj_T.pl rfl rfl rfl rfl ?_
  refine rT_put (v := 0) hs rfl rfl (by decide) rfl (fun g11 hs11 => ?_)
  have K11 := K.put (k := 3) (v := 0) ⟨by decide, by decide⟩ (by decide) (by decide) (by decide) (by decide) (by decide)
  generalize jvu S 3 0 = S11 at hs11 K11
  refine mj_T.pl rfl rfl rfl rfl ?_
  refine mj_T.call (ins := .invokestatic 317) rfl rfl (Nat.le_of_ble_eq_true rfl) (Nat.le_of_ble_eq_true rfl) rfl rfl (mj_Ok.up (by decide) (rp_told hx)) (fun v' h' hq' => ?_) (fun i h' hq' => by obtain ⟨_, _, h⟩ := hq'; cases h)
  obtain ⟨s, hst, hq'⟩ := hq'
  cases hq'
  iterate 2 refine mj_T.pl rfl rfl rfl rfl ?_
  refine mj_T.i2l rfl hy ?_
  iterate 3 refine mj_T.pl rfl rfl rfl rfl ?_
  refine mj_T.call (ins := .invokevirtual 321) rfl rfl (Nat.le_of_ble_eq_true rfl) (Nat.le_of_ble_eq_true rfl) (by simp [mj_recv, rS_f hs11]) rfl (mj_Ok.up (by decide) (rp_digitsOf (s := s) (by omega) hs11)) (fun v' h' hq' => ?_) (fun i h' hq' => by obtain ⟨_, _, h⟩ := hq'; cases h)
  obtain ⟨c, hc9, hq'⟩ := hq'
  cases hq'
  refine mj_T.pl rfl rfl rfl rfl ?_
  refine mj_T.isub (a := (c : Int)) (b := 1) rfl ?_
  refine mj_T.i2l rfl ⟨by omega, by omega⟩ ?_
  refine mj_T.call (ins := .invokestatic 177) rfl rfl (Nat.le_of_ble_eq_true rfl) (Nat.le_of_ble_eq_true rfl) rfl rfl (mj_Ok.up (by decide) (rp_in (D := 0) (v := y) (lo := 0) (hi := (c : Int) - 1) ⟨by have := hy.1; omega, by have := hy.2; omega⟩ ⟨by decide, by decide⟩ ⟨by omega, by omega⟩)) (fun v' h' hq' => ?_) (fun i h' hq' => by rcases hq' with ⟨_, _, h⟩ | ⟨_, h⟩ <;> cases h)
  rcases hq' with ⟨y1, y2, hq'⟩ | ⟨_, hq'⟩
  case' inr =>
    cases hq'
    refine mj_T.if0 (a := 0) rfl ⟨by decide, by decide⟩ (fun hc => ?_) (fun hc => ?_)
    · simp [jc] at hc
    iterate 2 refine mj_T.pl rfl rfl rfl rfl ?_
    refine mj_T.call (ins := .invokevirtual 198) rfl rfl (Nat.le_of_ble_eq_true rfl) (Nat.le_of_ble_eq_true rfl) (by simp [mj_recv, rS_f hs11]) rfl (mj_Ok.up (by decide) (rp_fails (D := 0) (c := 1) hs11)) (fun v' g12 hq' => ?_) (fun i h' hq' => by obtain ⟨_, _, h⟩ := hq'; cases h)
    obtain ⟨_, hs12, hq'⟩ := hq'
    cases hq'
    exact mj_T.ret rfl rfl rfl ⟨0, g12, ⟨by decide, by decide⟩, rfl, ⟨_, N, B, X, V, hs12, K11.put ⟨by decide, by decide⟩ (by decide) (by decide) (by decide) (by decide) (by decide)⟩⟩
  cases hq'
  refine mj_T.if0 (a := 1) rfl ⟨by decide, by decide⟩ (fun hc => ?_) (fun hc => ?_)
  rotate_left
  · simp [jc] at hc
  obtain ⟨y, rfl⟩ := Int.eq_ofNat_of_zero_le y1
  iterate 4 refine mj_T.pl rfl rfl rfl rfl ?_
  refine mj_T.idiv (a := (y : Int)) (b := 9) rfl ⟨by omega, by omega⟩ ⟨by decide, by decide⟩ (by decide) ?_
  rw [show (y : Int).tdiv 9 = ((y / 9 : Nat) : Int) from rfl]
  refine mj_T.call (ins := .invokevirtual 64) rfl rfl (Nat.le_of_ble_eq_true rfl) (Nat.le_of_ble_eq_true rfl) (by simp [mj_recv, rS_f hs11]) rfl (mj_Ok.up (by decide) (jS_limb (D := 0) (rG S11 N B T X) (s := s) (j := y / 9) (by omega) (by omega) hs11)) (fun v' h' hq' => ?_) (fun i h' hq' => by cases hq')
  cases hq'
  have hlb := jlb_lt (V s).natAbs (y / 9)
  iterate 3 refine mj_T.pl rfl rfl rfl rfl ?_
  refine mj_T.irem (a := (y : Int)) (b := 9) rfl ⟨by omega, by omega⟩ ⟨by decide, by decide⟩ (by decide) ?_
  rw [show (y : Int).tmod 9 = ((y % 9 : Nat) : Int) from rfl]
  refine mj_T.pl rfl rfl rfl rfl ?_
  exact rp_dt_loop K11 hs11 (y % 9) _ (by omega) hlb
theorem rp_pointCount  (hI : jI tm er T h) : mj_Ok 40 283 [.ref 0] h (rI tm er T) := by
  refine mj_Ok.of (M := mj_m283) rfl rfl rfl ?_
  obtain ⟨S, N, B, X, V, hs, K⟩ := hI
  iterate 2 refine mj_T.pl rfl rfl rfl rfl ?_
  refine rT_put (v := 0) hs rfl rfl (by decide) rfl (fun g13 hs13 => ?_)
  have K13 := K.put (k := 3) (v := 0) ⟨by decide, by decide⟩ (by decide) (by decide) (by decide) (by decide) (by decide)
  generalize jvu S 3 0 = S13 at hs13 K13
  refine mj_T.pl rfl rfl rfl rfl ?_
  refine rT_get hs13 rfl rfl ?_
  refine mj_T.pl rfl rfl rfl rfl ?_
  have hg := K13.1.2.1
  refine rT_ldN (i := ((78 : Nat) : Int)) hs13 rfl ⟨by decide, by decide⟩ ?_
  rw [Int.toNat_natCast]
  refine mj_T.l2i rfl ?_
  exact mj_T.ret rfl rfl rfl ⟨_, g13, ⟨by omega, by omega⟩, rfl, ⟨S13, N, B, X, V, hs13, K13⟩⟩
theorem rp_gcd_loop {S N B X : Nat → Int} {x : Nat} {y z : Int} (hx : x ≤ 5) (K : jK tm er S N B T) :
    ∀ (m k : Nat) (V : Nat → Int) (h : mj_H), k + m = 13 → rS S N B T X V h → (V 656).natAbs ≤ 10 ^ 18 → (∀ e, k ≤ e → e < 13 → (V (4 * 13 + e)).natAbs ≤ kq_F (10 ^ 18) 24) → mj_T 39 mj_m238 74 [some (.ref 0), some (.int (jn (x : Int))), some (.int (jn y)), some (.int (jn z)), some (.int (jn (k : Int)))] [] h (rI tm er T) := by
  intro m
  induction m with
  | zero =>
    intro k V h hk hs c1 c2
    have hk : k = 13 := by omega
    subst hk
    iterate 2 refine mj_T.pl rfl rfl rfl rfl ?_
    refine mj_T.icmp (a := ((13 : Nat) : Int)) (b := 13) rfl ⟨by decide, by decide⟩ ⟨by decide, by decide⟩ (fun hc => ?_) (fun hc => ?_)
    rotate_left
    · simp [jc] at hc
    iterate 4 refine mj_T.pl rfl rfl rfl rfl ?_
    refine mj_T.call (ins := .invokevirtual 219) rfl rfl (Nat.le_of_ble_eq_true rfl) (Nat.le_of_ble_eq_true rfl) (by simp [mj_recv, rS_f hs]) rfl (mj_Ok.up (by decide) (rp_puts (D := 0) (r := x) (p := 4) (c := 2) (by omega) (by decide) ⟨by decide, by decide⟩ K hs)) (fun v' h' hq' => ?_) (fun i h' hq' => by obtain ⟨_, _, _, h, _⟩ := hq'; cases h)
    obtain ⟨z9, h9, hz9, e9, hI9⟩ := hq'
    cases e9
    exact mj_T.ret rfl rfl rfl ⟨z9, _, hz9, rfl, hI9⟩
  | succ m ih =>
    intro k V h hk hs c1 c2
    iterate 2 refine mj_T.pl rfl rfl rfl rfl ?_
    refine mj_T.icmp (a := (k : Int)) (b := 13) rfl ⟨by omega, by omega⟩ ⟨by decide, by decide⟩ (fun hc => ?_) (fun hc => ?_)
    · simp only [jc, decide_eq_true_eq] at hc
      omega
    iterate 3 refine mj_T.pl rfl rfl rfl rfl ?_
    refine mj_T.call (ins := .invokestatic 104) rfl rfl (Nat.le_of_ble_eq_true rfl) (Nat.le_of_ble_eq_true rfl) rfl rfl (mj_Ok.up (by decide) (jq_slot (D := 0) (p := 4) (i := k))) (fun v' h' hq' => ?_) (fun i h' hq' => by cases hq')
    cases hq'
    iterate 2 refine mj_T.pl rfl rfl rfl rfl ?_
    refine mj_T.call (ins := .invokestatic 104) rfl rfl (Nat.le_of_ble_eq_true rfl) (Nat.le_of_ble_eq_true rfl) rfl rfl (mj_Ok.up (by decide) (jq_slot (D := 0) (p := 4) (i := k))) (fun v' h' hq' => ?_) (fun i h' hq' => by cases hq')
    cases hq'
    refine mj_T.pl rfl rfl rfl rfl ?_
    refine mj_T.call (ins := .invokevirtual 117) rfl rfl (Nat.le_of_ble_eq_true rfl) (Nat.le_of_ble_eq_true rfl) (by simp [mj_recv, rS_f hs]) rfl (mj_Ok.up (by decide) (jS_mul (D := 0) (V := V) (rG S N B T X) (to := 4 * 13 + k) (a := 4 * 13 + k) (b := 656) (by omega) (by omega) (by decide) (jnl_of_lt (M := kq_F (10 ^ 18) 24 * 10 ^ 18) (by rw [Int.natAbs_mul]; exact Nat.mul_le_mul (c2 k (by omega) (by omega)) c1) rp_small5) hs)) (fun v' g1 hq' => ?_) (fun i h' hq' => by obtain ⟨_, _, h⟩ := hq'; cases h)
    obtain ⟨_, hs1, hq'⟩ := hq'
    cases hq'
    refine mj_T.iinc (a := (k : Int)) rfl rfl ?_
    refine mj_T.pl rfl rfl rfl rfl ?_
    exact ih (k + 1) _ g1 (by omega) hs1 (by rw [jvu_ne _ _ _ (by omega)]; exact c1) (fun e e1 e2 => by rw [jvu_ne _ _ _ (by omega)]; exact c2 e (by omega) e2)
theorem rp_gcd {x y z : Int} (hx : jr x) (hy : jr y) (hz : jr z) (hI : jI tm er T h) : mj_Ok 40 238 [.ref 0, .int (jn x), .int (jn y), .int (jn z)] h (rI tm er T) := by
  refine mj_Ok.of (M := mj_m238) rfl rfl rfl ?_
  obtain ⟨S, N, B, X, V, hs, K⟩ := hI
  iterate 2 refine mj_T.pl rfl rfl rfl rfl ?_
  refine rT_put (v := 0) hs rfl rfl (by decide) rfl (fun g15 hs15 => ?_)
  have K15 := K.put (k := 3) (v := 0) ⟨by decide, by decide⟩ (by decide) (by decide) (by decide) (by decide) (by decide)
  generalize jvu S 3 0 = S15 at hs15 K15
  iterate 3 refine mj_T.pl rfl rfl rfl rfl ?_
  refine mj_T.call (ins := .invokestatic 210) rfl rfl (Nat.le_of_ble_eq_true rfl) (Nat.le_of_ble_eq_true rfl) rfl rfl (mj_Ok.up (by decide) (rp_areRegisters (D := 0) hx hy hz)) (fun v' h' hq' => ?_) (fun i h' hq' => by rcases hq' with ⟨_, _, h⟩ | ⟨_, h⟩ <;> cases h)
  rcases hq' with ⟨⟨x1, x2⟩, ⟨y3, y4, z5, z6⟩, hq'⟩ | ⟨_, hq'⟩
  case' inr =>
    cases hq'
    refine mj_T.if0 (a := 0) rfl ⟨by decide, by decide⟩ (fun hc => ?_) (fun hc => ?_)
    · simp [jc] at hc
    iterate 2 refine mj_T.pl rfl rfl rfl rfl ?_
    refine mj_T.call (ins := .invokevirtual 198) rfl rfl (Nat.le_of_ble_eq_true rfl) (Nat.le_of_ble_eq_true rfl) (by simp [mj_recv, rS_f hs15]) rfl (mj_Ok.up (by decide) (rp_fails (D := 0) (c := 1) hs15)) (fun v' g16 hq' => ?_) (fun i h' hq' => by obtain ⟨_, _, h⟩ := hq'; cases h)
    obtain ⟨_, hs16, hq'⟩ := hq'
    cases hq'
    exact mj_T.ret rfl rfl rfl ⟨0, g16, ⟨by decide, by decide⟩, rfl, ⟨_, N, B, X, V, hs16, K15.put ⟨by decide, by decide⟩ (by decide) (by decide) (by decide) (by decide) (by decide)⟩⟩
  cases hq'
  refine mj_T.if0 (a := 1) rfl ⟨by decide, by decide⟩ (fun hc => ?_) (fun hc => ?_)
  rotate_left
  · simp [jc] at hc
  obtain ⟨x, rfl⟩ := Int.eq_ofNat_of_zero_le x1
  obtain ⟨y, rfl⟩ := Int.eq_ofNat_of_zero_le y3
  obtain ⟨z, rfl⟩ := Int.eq_ofNat_of_zero_le z5
  iterate 3 refine mj_T.pl rfl rfl rfl rfl ?_
  refine mj_T.call (ins := .invokevirtual 213) rfl rfl (Nat.le_of_ble_eq_true rfl) (Nat.le_of_ble_eq_true rfl) (by simp [mj_recv, rS_f hs15]) rfl (mj_Ok.up (by decide) (rp_loads (D := 0) (p := 5) (r := y) (by decide) (by omega) K15.nR hs15)) (fun v' g17 hq' => ?_) (fun i h' hq' => by obtain ⟨_, _, h⟩ := hq'; cases h)
  obtain ⟨_, hs17, hq'⟩ := hq'
  cases hq'
  have a17 : ∀ e, e < 13 → jfl V 5 (fun e => N (y * 13 + e)) 13 (5 * 13 + e) = N (y * 13 + e) := fun e he => jfl_at _ _ _ he
  have b17 : ∀ s, (s < 5 * 13 ∨ 5 * 13 + 13 ≤ s) → jfl V 5 (fun e => N (y * 13 + e)) 13 s = V s := fun s hc => jfl_off _ _ _ hc
  generalize jfl V 5 (fun e => N (y * 13 + e)) 13 = W17 at hs17 a17 b17
  iterate 3 refine mj_T.pl rfl rfl rfl rfl ?_
  refine mj_T.call (ins := .invokevirtual 213) rfl rfl (Nat.le_of_ble_eq_true rfl) (Nat.le_of_ble_eq_true rfl) (by simp [mj_recv, rS_f hs17]) rfl (mj_Ok.up (by decide) (rp_loads (D := 0) (p := 6) (r := z) (by decide) (by omega) K15.nR hs17)) (fun v' g18 hq' => ?_) (fun i h' hq' => by obtain ⟨_, _, h⟩ := hq'; cases h)
  obtain ⟨_, hs18, hq'⟩ := hq'
  cases hq'
  have a18 : ∀ e, e < 13 → jfl W17 6 (fun e => N (z * 13 + e)) 13 (6 * 13 + e) = N (z * 13 + e) := fun e he => jfl_at _ _ _ he
  have b18 : ∀ s, (s < 6 * 13 ∨ 6 * 13 + 13 ≤ s) → jfl W17 6 (fun e => N (z * 13 + e)) 13 s = W17 s := fun s hc => jfl_off _ _ _ hc
  generalize jfl W17 6 (fun e => N (z * 13 + e)) 13 = W18 at hs18 a18 b18
  have c1 : ∀ e, e < 13 → (W18 (5 * 13 + e)).natAbs ≤ 10 ^ 18 := fun e he => by
    rw [b18 _ (by omega), a17 e he]
    exact K15.sh (r := y) (by omega) he
  have c2 : ∀ e, e < 13 → (W18 (6 * 13 + e)).natAbs ≤ 10 ^ 18 := fun e he => by
    rw [a18 e he]
    exact K15.sh (r := z) (by omega) he
  iterate 3 refine mj_T.pl rfl rfl rfl rfl ?_
  refine mj_T.call (ins := .invokevirtual 130) rfl rfl (Nat.le_of_ble_eq_true rfl) (Nat.le_of_ble_eq_true rfl) (by simp [mj_recv, rS_f hs18]) rfl (mj_Ok.up (by decide) (jp_contents (D := 0) (rG S15 N B T X) (to := 661) (p := 5) (by decide) (by decide) (by decide) (by decide) (by decide) (by decide) (by decide) hs18)) (fun v' g19 hq' => ?_) (fun i h' hq' => by obtain ⟨_, _, _, _, _, h⟩ := hq'; cases h)
  obtain ⟨W19, _, hs19, d1, d2, hq'⟩ := hq'
  cases hq'
  iterate 3 refine mj_T.pl rfl rfl rfl rfl ?_
  refine mj_T.call (ins := .invokevirtual 130) rfl rfl (Nat.le_of_ble_eq_true rfl) (Nat.le_of_ble_eq_true rfl) (by simp [mj_recv, rS_f hs19]) rfl (mj_Ok.up (by decide) (jp_contents (D := 0) (rG S15 N B T X) (to := 662) (p := 6) (by decide) (by decide) (by decide) (by decide) (by decide) (by decide) (by decide) hs19)) (fun v' g20 hq' => ?_) (fun i h' hq' => by obtain ⟨_, _, _, _, _, h⟩ := hq'; cases h)
  obtain ⟨W20, _, hs20, d3, d4, hq'⟩ := hq'
  cases hq'
  iterate 4 refine mj_T.pl rfl rfl rfl rfl ?_
  refine mj_T.call (ins := .invokevirtual 127) rfl rfl (Nat.le_of_ble_eq_true rfl) (Nat.le_of_ble_eq_true rfl) (by simp [mj_recv, rS_f hs20]) rfl (mj_Ok.up (by decide) (jp_commons (D := 0) (V := W20) (rG S15 N B T X) (to := 656) (i := 661) (j := 662) (by decide) (by decide) (by decide) (by decide) (by decide) (by decide) (by decide) hs20)) (fun v' g21 hq' => ?_) (fun i h' hq' => by obtain ⟨_, _, _, _, _, h⟩ := hq'; cases h)
  obtain ⟨W21, _, hs21, d5, d6, hq'⟩ := hq'
  cases hq'
  have k5 : jgk W18 5 13 ≤ 10 ^ 18 := jgk_le c1
  have c3 : ∀ e, e < 13 → (W19 (6 * 13 + e)).natAbs ≤ 10 ^ 18 := fun e he => by rw [d2 _ (by omega) (by omega) (by omega) (by omega) (by omega)]; exact c2 e he
  have k6 : jgk W19 6 13 ≤ 10 ^ 18 := jgk_le c3
  have k7 : (W21 656).natAbs ≤ 10 ^ 18 := by rw [d5, d4 661 (by decide) (by decide) (by decide) (by decide) (by decide), d1, d3, Int.natAbs_natCast, Int.natAbs_natCast, Int.natAbs_natCast]; exact gcd_le2 k5 k6
  have c5 : ∀ e, e < 13 → (W21 (5 * 13 + e)).natAbs ≤ 10 ^ 18 := fun e he => by rw [d6 _ (by omega) (by omega) (by omega) (by omega), d4 _ (by omega) (by omega) (by omega) (by omega) (by omega), d2 _ (by omega) (by omega) (by omega) (by omega) (by omega)]; exact c1 e he
  have c6 : ∀ e, e < 13 → (W21 (6 * 13 + e)).natAbs ≤ 10 ^ 18 := fun e he => by rw [d6 _ (by omega) (by omega) (by omega) (by omega), d4 _ (by omega) (by omega) (by omega) (by omega) (by omega)]; exact c3 e he
  iterate 4 refine mj_T.pl rfl rfl rfl rfl ?_
  refine mj_T.call (ins := .invokevirtual 152) rfl rfl (Nat.le_of_ble_eq_true rfl) (Nat.le_of_ble_eq_true rfl) (by simp [mj_recv, rS_f hs21]) rfl (mj_Ok.up (by decide) (jp_commonsA (D := 0) (V := W21) (rG S15 N B T X) (A := 10 ^ 18) kq_fit18 (to := 4) (a := 5) (b := 6) (by decide) (by decide) (by decide) (by decide) (by decide) (by decide) (by decide) (by decide) (by decide) c5 c6 hs21)) (fun v' g22 hq' => ?_) (fun i h' hq' => by obtain ⟨_, _, _, _, _, h⟩ := hq'; cases h)
  obtain ⟨W22, _, hs22, d7, ⟨d8, _⟩, hq'⟩ := hq'
  cases hq'
  iterate 2 refine mj_T.pl rfl rfl rfl rfl ?_
  exact rp_gcd_loop (by omega) K15 13 0 _ _ (by omega) hs22 (by rw [d7 656 (by decide) (by decide) (by decide) (by decide) (by decide) (by decide) (by decide) (by decide) (by decide) (by decide)]; exact k7) (fun e _ he => by have := d8 e; rw [jpo_at he] at this; exact this)
end RPU
/-! Calls of the reference: substitution, roots by a prime, real roots. -/
theorem rp_cr1 : 13 * (kq_F (10 ^ 51) 24 * 1000 ^ 12) < jB ^ 698 := by decide +kernel
theorem rp_a51 : 13 * 10 ^ 51 < jB ^ 698 := by decide +kernel
theorem rp_cr2 : 13 * (kq_F (10 ^ 51) 24 * (6 * ((10 ^ 50 + 2) * 10 ^ 50)) ^ 12) < jB ^ 698 := by decide +kernel
theorem rp_cr3 : (6 * ((10 ^ 50 + 2) * 10 ^ 50)) ^ 12 < jB ^ 698 := by decide +kernel
theorem rp_cr4 : 13 * (10 ^ 50 * (6 * ((10 ^ 50 + 2) * 10 ^ 50)) ^ 12) < jB ^ 698 := by decide +kernel
theorem rp_ks : kq_S ≤ 10 ^ 50 ∧ kq_S * 12 ≤ 10 ^ 51 := by decide +kernel
theorem rp_x50 : 10 ^ 50 ≤ 6 * ((10 ^ 50 + 2) * 10 ^ 50) := by decide +kernel
theorem rp_x1 : 1 ≤ 6 * ((10 ^ 50 + 2) * 10 ^ 50) := by decide +kernel
theorem rp_b20 : ∀ x, x ≤ 20 → 2 ^ x ≤ 10 ^ 50 := by decide +kernel
section RPU
variable {h : mj_H} {tm er : Int} {T : Nat → Int}
theorem rp_sb_loop {S N B X V0 : Nat → Int} {x : Nat} {y z : Int} (hx : x ≤ 5) (K : jK tm er S N B T) (hA : ∀ e, e < 13 → (V0 (0 * 13 + e)).natAbs ≤ 10 ^ 18) (hB : ∀ e, e < 13 → (V0 (1 * 13 + e)).natAbs ≤ 10 ^ 18) (hdeg : (jdg V0 0 13 - 1) * (jdg V0 1 13 - 1) ≤ 12) :
    ∀ (m s : Nat) (V : Nat → Int) (h : mj_H), m + s = jdg V0 0 13 → rS S N B T X V h → (∀ j, j < 26 → V j = V0 j) → (∀ e, e < 13 → (V (2 * 13 + e)).natAbs ≤ (170 * 10 ^ 18) ^ s) → ((s = 0 ∧ jdg V 2 13 = 0) ∨ (1 ≤ s ∧ jdg V 2 13 ≤ (s - 1) * (jdg V0 1 13 - 1) + 1)) → mj_T 39 mj_m236 74 [some (.ref 0), some (.int (jn (x : Int))), some (.int (jn y)), some (.int (jn z)), some (.int (jn ((m : Int) - 1)))] [] h (rI tm er T) := by
  have hl0 := jdg_le V0 0 13
  have hl1 := jdg_le V0 1 13
  intro m
  induction m with
  | zero =>
    intro s V h hm hs f c1 c2
    refine mj_T.pl rfl rfl rfl rfl ?_
    refine mj_T.if0 (a := ((0 : Nat) : Int) - 1) rfl ⟨by decide, by decide⟩ (fun hc => ?_) (fun hc => ?_)
    rotate_left
    · simp [jc] at hc
    iterate 4 refine mj_T.pl rfl rfl rfl rfl ?_
    refine mj_T.call (ins := .invokevirtual 219) rfl rfl (Nat.le_of_ble_eq_true rfl) (Nat.le_of_ble_eq_true rfl) (by simp [mj_recv, rS_f hs]) rfl (mj_Ok.up (by decide) (rp_puts (D := 0) (r := x) (p := 2) (c := 2) (by omega) (by decide) ⟨by decide, by decide⟩ K hs)) (fun v' h' hq' => ?_) (fun i h' hq' => by obtain ⟨_, _, _, h, _⟩ := hq'; cases h)
    obtain ⟨z9, h9, hz9, e9, hI9⟩ := hq'
    cases e9
    exact mj_T.ret rfl rfl rfl ⟨z9, _, hz9, rfl, hI9⟩
  | succ m ih =>
    intro s V h hm hs f c1 c2
    refine mj_T.pl rfl rfl rfl rfl ?_
    refine mj_T.if0 (a := ((m + 1 : Nat) : Int) - 1) rfl ⟨by omega, by omega⟩ (fun hc => ?_) (fun hc => ?_)
    · simp only [jc, decide_eq_true_eq] at hc
      omega
    rw [show ((m + 1 : Nat) : Int) - 1 = (m : Int) by omega]
    have e1 : jdg V 1 13 = jdg V0 1 13 := jdg_congr 13 fun e he => f _ (by omega)
    have hmul : (s - 1) * (jdg V0 1 13 - 1) + (jdg V0 1 13 - 1) = s * (jdg V0 1 13 - 1) ∨ s = 0 := by
      rcases Nat.eq_zero_or_pos s with q | q
      · exact Or.inr q
      · refine Or.inl ?_
        obtain ⟨t, rfl⟩ : ∃ t, s = t + 1 := ⟨s - 1, by omega⟩
        rw [Nat.add_sub_cancel, Nat.succ_mul]
    have hle : s * (jdg V0 1 13 - 1) ≤ 12 := Nat.le_trans (Nat.mul_le_mul_right _ (by omega)) hdeg
    have hpw : (170 * 10 ^ 18) ^ s ≤ (170 * 10 ^ 18) ^ 13 := Nat.pow_le_pow_right (by decide) (by omega)
    have hp1 : 1 ≤ (170 * 10 ^ 18) ^ s := Nat.pow_pos (by decide)
    have h6 := rp_small6
    have hps : (170 * 10 ^ 18) ^ (s + 1) = (170 * 10 ^ 18) ^ s * (170 * 10 ^ 18) := Nat.pow_succ _ _
    obtain ⟨al, ha1, ha2, ha3⟩ : ∃ al : Nat, (∀ e, e < 13 → (V (2 * 13 + e)).natAbs ≤ al) ∧ al ≤ (170 * 10 ^ 18) ^ s ∧ (s = 0 → al = 0) := by
      rcases c2 with ⟨q, q2⟩ | ⟨q, _⟩
      · exact ⟨0, fun e he => by rw [jdg_zero V 2 13 e (by omega) he]; exact Nat.zero_le _, Nat.zero_le _, fun _ => rfl⟩
      · exact ⟨_, c1, Nat.le_refl _, fun q2 => absurd q2 (by omega)⟩
    iterate 4 refine mj_T.pl rfl rfl rfl rfl ?_
    refine mj_T.call (ins := .invokevirtual 121) rfl rfl (Nat.le_of_ble_eq_true rfl) (Nat.le_of_ble_eq_true rfl) (by simp [mj_recv, rS_f hs]) rfl (mj_Ok.up (by decide) (jp_multipliesPoly (D := 0) (V := V) (rG S N B T X) (to := 7) (a := 2) (b := 1) (by decide) (by decide) (by decide) (by decide) (by decide) (al := al) (be := 10 ^ 18) ha1 (fun e he => by rw [f _ (by omega)]; exact hB e he) (by rw [e1]; omega) (by omega) hs)) (fun v' g1 hq' => ?_) (fun i h' hq' => by obtain ⟨_, _, _, _, _, _, h⟩ := hq'; cases h)
    obtain ⟨W1, _, hs1, d1, d2, d3, hq'⟩ := hq'
    cases hq'
    iterate 3 refine mj_T.pl rfl rfl rfl rfl ?_
    refine mj_T.call (ins := .invokevirtual 124) rfl rfl (Nat.le_of_ble_eq_true rfl) (Nat.le_of_ble_eq_true rfl) (by simp [mj_recv, rS_f hs1]) rfl (mj_Ok.up (by decide) (jp_copiesPoly (D := 0) (V := W1) (rG S N B T X) (p := 2) (q := 7) (by decide) (by decide) (by decide) hs1)) (fun v' g2 hq' => ?_) (fun i h' hq' => by obtain ⟨_, _, h⟩ := hq'; cases h)
    obtain ⟨_, hs2, hq'⟩ := hq'
    cases hq'
    have q1 : ∀ e, e < 13 → jfl W1 2 (fun e => W1 (7 * 13 + e)) 13 (2 * 13 + e) = W1 (7 * 13 + e) := fun e he => jfl_at _ _ _ he
    have q2 : ∀ s, (s < 26 ∨ 39 ≤ s) → jfl W1 2 (fun e => W1 (7 * 13 + e)) 13 s = W1 s := fun s hc => jfl_off _ _ _ (by omega)
    generalize jfl W1 2 (fun e => W1 (7 * 13 + e)) 13 = W2 at hs2 q1 q2
    iterate 3 refine mj_T.pl rfl rfl rfl rfl ?_
    refine mj_T.call (ins := .invokestatic 104) rfl rfl (Nat.le_of_ble_eq_true rfl) (Nat.le_of_ble_eq_true rfl) rfl rfl (mj_Ok.up (by decide) (jq_slot (D := 0) (p := 2) (i := 0))) (fun v' h' hq' => ?_) (fun i h' hq' => by cases hq')
    cases hq'
    iterate 2 refine mj_T.pl rfl rfl rfl rfl ?_
    refine mj_T.call (ins := .invokestatic 104) rfl rfl (Nat.le_of_ble_eq_true rfl) (Nat.le_of_ble_eq_true rfl) rfl rfl (mj_Ok.up (by decide) (jq_slot (D := 0) (p := 2) (i := 0))) (fun v' h' hq' => ?_) (fun i h' hq' => by cases hq')
    cases hq'
    iterate 2 refine mj_T.pl rfl rfl rfl rfl ?_
    refine mj_T.call (ins := .invokestatic 104) rfl rfl (Nat.le_of_ble_eq_true rfl) (Nat.le_of_ble_eq_true rfl) rfl rfl (mj_Ok.up (by decide) (jq_slot (D := 0) (p := 0) (i := m))) (fun v' h' hq' => ?_) (fun i h' hq' => by cases hq')
    cases hq'
    refine mj_T.pl rfl rfl rfl rfl ?_
    have va : W2 (0 * 13 + m) = V0 (0 * 13 + m) := by rw [q2 _ (by omega), d1 _ (by omega) (by omega), f _ (by omega)]
    have v1 : (W2 (2 * 13 + 0) + 1 * W2 (0 * 13 + m)).natAbs ≤ (170 * 10 ^ 18) ^ (s + 1) := by
      rw [va, q1 0 (by decide), Int.one_mul]
      have k1 := d2 0 (by decide)
      have k2 := hA m (by omega)
      have k3 := Int.natAbs_add_le (W1 (7 * 13 + 0)) (V0 (0 * 13 + m))
      omega
    refine mj_T.call (ins := .invokevirtual 107) rfl rfl (Nat.le_of_ble_eq_true rfl) (Nat.le_of_ble_eq_true rfl) (by simp [mj_recv, rS_f hs2]) rfl (mj_Ok.up (by decide) (jS_adds (D := 0) (V := W2) (rG S N B T X) (to := 2 * 13 + 0) (a := 2 * 13 + 0) (b := 0 * 13 + m) (f := 1) (by decide) (by decide) (by omega) (Or.inl rfl) (jnl_of_lt v1 (by omega)) hs2)) (fun v' g3 hq' => ?_) (fun i h' hq' => by obtain ⟨_, _, h⟩ := hq'; cases h)
    obtain ⟨_, hs3, hq'⟩ := hq'
    cases hq'
    have u1 : jvu W2 (2 * 13 + 0) (W2 (2 * 13 + 0) + 1 * W2 (0 * 13 + m)) (2 * 13 + 0) = W2 (2 * 13 + 0) + 1 * W2 (0 * 13 + m) := jvu_at _ _ _
    have u2 : ∀ s, s ≠ 2 * 13 + 0 → jvu W2 (2 * 13 + 0) (W2 (2 * 13 + 0) + 1 * W2 (0 * 13 + m)) s = W2 s := fun s hne => jvu_ne _ _ _ hne
    generalize jvu W2 (2 * 13 + 0) (W2 (2 * 13 + 0) + 1 * W2 (0 * 13 + m)) = W3 at hs3 u1 u2
    refine mj_T.iinc (a := (m : Int)) rfl rfl ?_
    refine mj_T.pl rfl rfl rfl rfl ?_
    refine ih (s + 1) W3 g3 (by omega) hs3 (fun j hj => by rw [u2 _ (by omega), q2 _ (by omega), d1 _ (by omega) (by omega), f _ hj]) (fun e he => ?_) (Or.inr ⟨by omega, ?_⟩)
    · by_cases e0 : e = 0
      · subst e0
        rw [u1]
        exact v1
      · rw [u2 _ (by omega), q1 e he]
        have := d2 e he
        omega
    · have j1 : jdg W1 7 13 ≤ jdg V 2 13 + jdg V 1 13 - 1 := d3
      refine jdg_of_zero fun e x1 x2 => ?_
      rw [Nat.add_sub_cancel] at x1
      rw [u2 _ (by omega), q1 e x2]
      by_cases q : s = 0
      · have := d2 e x2
        rw [ha3 q, Nat.zero_mul, Nat.mul_zero] at this
        omega
      · exact jdg_zero W1 7 13 e (by omega) x2
theorem rp_substitute {x y z : Int} (hx : jr x) (hy : jr y) (hz : jr z) (hI : jI tm er T h) : mj_Ok 40 236 [.ref 0, .int (jn x), .int (jn y), .int (jn z)] h (rI tm er T) := by
  refine mj_Ok.of (M := mj_m236) rfl rfl rfl ?_
  obtain ⟨S, N, B, X, V, hs, K⟩ := hI
  iterate 2 refine mj_T.pl rfl rfl rfl rfl ?_
  refine rT_put (v := 0) hs rfl rfl (by decide) rfl (fun g4 hs4 => ?_)
  have K4 := K.put (k := 3) (v := 0) ⟨by decide, by decide⟩ (by decide) (by decide) (by decide) (by decide) (by decide)
  generalize jvu S 3 0 = S4 at hs4 K4
  iterate 3 refine mj_T.pl rfl rfl rfl rfl ?_
  refine mj_T.call (ins := .invokestatic 210) rfl rfl (Nat.le_of_ble_eq_true rfl) (Nat.le_of_ble_eq_true rfl) rfl rfl (mj_Ok.up (by decide) (rp_areRegisters (D := 0) hx hy hz)) (fun v' h' hq' => ?_) (fun i h' hq' => by rcases hq' with ⟨_, _, h⟩ | ⟨_, h⟩ <;> cases h)
  rcases hq' with ⟨⟨x1, x2⟩, ⟨y3, y4, z5, z6⟩, hq'⟩ | ⟨_, hq'⟩
  case' inr =>
    cases hq'
    refine mj_T.if0 (a := 0) rfl ⟨by decide, by decide⟩ (fun hc => ?_) (fun hc => ?_)
    · simp [jc] at hc
    iterate 2 refine mj_T.pl rfl rfl rfl rfl ?_
    refine mj_T.call (ins := .invokevirtual 198) rfl rfl (Nat.le_of_ble_eq_true rfl) (Nat.le_of_ble_eq_true rfl) (by simp [mj_recv, rS_f hs4]) rfl (mj_Ok.up (by decide) (rp_fails (D := 0) (c := 1) hs4)) (fun v' g5 hq' => ?_) (fun i h' hq' => by obtain ⟨_, _, h⟩ := hq'; cases h)
    obtain ⟨_, hs5, hq'⟩ := hq'
    cases hq'
    exact mj_T.ret rfl rfl rfl ⟨0, g5, ⟨by decide, by decide⟩, rfl, ⟨_, N, B, X, V, hs5, K4.put ⟨by decide, by decide⟩ (by decide) (by decide) (by decide) (by decide) (by decide)⟩⟩
  cases hq'
  refine mj_T.if0 (a := 1) rfl ⟨by decide, by decide⟩ (fun hc => ?_) (fun hc => ?_)
  rotate_left
  · simp [jc] at hc
  obtain ⟨x, rfl⟩ := Int.eq_ofNat_of_zero_le x1
  obtain ⟨y, rfl⟩ := Int.eq_ofNat_of_zero_le y3
  obtain ⟨z, rfl⟩ := Int.eq_ofNat_of_zero_le z5
  iterate 3 refine mj_T.pl rfl rfl rfl rfl ?_
  refine mj_T.call (ins := .invokevirtual 213) rfl rfl (Nat.le_of_ble_eq_true rfl) (Nat.le_of_ble_eq_true rfl) (by simp [mj_recv, rS_f hs4]) rfl (mj_Ok.up (by decide) (rp_loads (D := 0) (p := 0) (r := y) (by decide) (by omega) K4.nR hs4)) (fun v' g6 hq' => ?_) (fun i h' hq' => by obtain ⟨_, _, h⟩ := hq'; cases h)
  obtain ⟨_, hs6, hq'⟩ := hq'
  cases hq'
  have a6 : ∀ e, e < 13 → jfl V 0 (fun e => N (y * 13 + e)) 13 (0 * 13 + e) = N (y * 13 + e) := fun e he => jfl_at _ _ _ he
  have b6 : ∀ s, (s < 0 * 13 ∨ 0 * 13 + 13 ≤ s) → jfl V 0 (fun e => N (y * 13 + e)) 13 s = V s := fun s hc => jfl_off _ _ _ hc
  generalize jfl V 0 (fun e => N (y * 13 + e)) 13 = W6 at hs6 a6 b6
  iterate 3 refine mj_T.pl rfl rfl rfl rfl ?_
  refine mj_T.call (ins := .invokevirtual 213) rfl rfl (Nat.le_of_ble_eq_true rfl) (Nat.le_of_ble_eq_true rfl) (by simp [mj_recv, rS_f hs6]) rfl (mj_Ok.up (by decide) (rp_loads (D := 0) (p := 1) (r := z) (by decide) (by omega) K4.nR hs6)) (fun v' g7 hq' => ?_) (fun i h' hq' => by obtain ⟨_, _, h⟩ := hq'; cases h)
  obtain ⟨_, hs7, hq'⟩ := hq'
  cases hq'
  have a7 : ∀ e, e < 13 → jfl W6 1 (fun e => N (z * 13 + e)) 13 (1 * 13 + e) = N (z * 13 + e) := fun e he => jfl_at _ _ _ he
  have b7 : ∀ s, (s < 1 * 13 ∨ 1 * 13 + 13 ≤ s) → jfl W6 1 (fun e => N (z * 13 + e)) 13 s = W6 s := fun s hc => jfl_off _ _ _ hc
  generalize jfl W6 1 (fun e => N (z * 13 + e)) 13 = W7 at hs7 a7 b7
  have c1 : ∀ e, e < 13 → (W7 (0 * 13 + e)).natAbs ≤ 10 ^ 18 := fun e he => by
    rw [b7 _ (by omega), a6 e he]
    exact K4.sh (r := y) (by omega) he
  have c2 : ∀ e, e < 13 → (W7 (1 * 13 + e)).natAbs ≤ 10 ^ 18 := fun e he => by
    rw [a7 e he]
    exact K4.sh (r := z) (by omega) he
  have hl0 := jdg_le W7 0 13
  have hl1 := jdg_le W7 1 13
  have t62 : (jdg W7 0 13 - 1) * (jdg W7 1 13 - 1) ≤ 12 → mj_T 39 mj_m236 62 [some (.ref 0), some (.int (jn (x : Int))), some (.int (jn (y : Int))), some (.int (jn (z : Int))), none] [] g7 (rI tm er T) := fun hd => by
    iterate 2 refine mj_T.pl rfl rfl rfl rfl ?_
    refine mj_T.call (ins := .invokevirtual 110) rfl rfl (Nat.le_of_ble_eq_true rfl) (Nat.le_of_ble_eq_true rfl) (by simp [mj_recv, rS_f hs7]) rfl (mj_Ok.up (by decide) (jp_empties (D := 0) (rG S4 N B T X) (p := 2) (by decide) hs7)) (fun v' g8 hq' => ?_) (fun i h' hq' => by obtain ⟨_, _, h⟩ := hq'; cases h)
    obtain ⟨_, hs8, hq'⟩ := hq'
    cases hq'
    have q1 : ∀ e, e < 13 → jfl W7 2 (fun _ => 0) 13 (2 * 13 + e) = 0 := fun e he => jfl_at _ _ _ he
    have q2 : ∀ s, (s < 26 ∨ 39 ≤ s) → jfl W7 2 (fun _ => 0) 13 s = W7 s := fun s hc => jfl_off _ _ _ (by omega)
    generalize jfl W7 2 (fun _ => 0) 13 = W8 at hs8 q1 q2
    have e0 : jdg W8 0 13 = jdg W7 0 13 := jdg_congr 13 fun e he => q2 _ (by omega)
    iterate 2 refine mj_T.pl rfl rfl rfl rfl ?_
    refine mj_T.call (ins := .invokevirtual 114) rfl rfl (Nat.le_of_ble_eq_true rfl) (Nat.le_of_ble_eq_true rfl) (by simp [mj_recv, rS_f hs8]) rfl (mj_Ok.up (by decide) (jp_degreeOf (D := 0) (rG S4 N B T X) (p := 0) (by decide) hs8)) (fun v' h' hq' => ?_) (fun i h' hq' => by cases hq')
    cases hq'
    rw [e0]
    refine mj_T.pl rfl rfl rfl rfl ?_
    exact rp_sb_loop (V0 := W7) (by omega) K4 c1 c2 hd (jdg W7 0 13) 0 _ _ (by omega) hs8 (fun j hj => q2 _ (by omega)) (fun e he => by rw [q1 e he]; exact Nat.zero_le _) (Or.inl ⟨rfl, by have := jdg_of_zero (W := W8) (p := 2) (d := 0) (k := 13) (fun e _ he => q1 e he); omega⟩)
  iterate 2 refine mj_T.pl rfl rfl rfl rfl ?_
  refine mj_T.call (ins := .invokevirtual 114) rfl rfl (Nat.le_of_ble_eq_true rfl) (Nat.le_of_ble_eq_true rfl) (by simp [mj_recv, rS_f hs7]) rfl (mj_Ok.up (by decide) (jp_degreeOf (D := 0) (rG S4 N B T X) (p := 1) (by decide) hs7)) (fun v' h' hq' => ?_) (fun i h' hq' => by cases hq')
  cases hq'
  refine mj_T.if0 (a := (jdg W7 1 13 : Int) - 1) rfl ⟨by omega, by omega⟩ (fun hc => ?_) (fun hc => ?_)
  · simp only [jc, decide_eq_true_eq] at hc
    exact t62 (by rw [show jdg W7 1 13 - 1 = 0 by omega, Nat.mul_zero]; exact Nat.zero_le _)
  simp only [jc, decide_eq_false_iff_not] at hc
  iterate 2 refine mj_T.pl rfl rfl rfl rfl ?_
  refine mj_T.call (ins := .invokevirtual 114) rfl rfl (Nat.le_of_ble_eq_true rfl) (Nat.le_of_ble_eq_true rfl) (by simp [mj_recv, rS_f hs7]) rfl (mj_Ok.up (by decide) (jp_degreeOf (D := 0) (rG S4 N B T X) (p := 0) (by decide) hs7)) (fun v' h' hq' => ?_) (fun i h' hq' => by cases hq')
  cases hq'
  iterate 2 refine mj_T.pl rfl rfl rfl rfl ?_
  refine mj_T.call (ins := .invokevirtual 114) rfl rfl (Nat.le_of_ble_eq_true rfl) (Nat.le_of_ble_eq_true rfl) (by simp [mj_recv, rS_f hs7]) rfl (mj_Ok.up (by decide) (jp_degreeOf (D := 0) (rG S4 N B T X) (p := 1) (by decide) hs7)) (fun v' h' hq' => ?_) (fun i h' hq' => by cases hq')
  cases hq'
  refine mj_T.imul rfl ?_
  have e2 : (jdg W7 0 13 - 1) * (jdg W7 1 13 - 1) ≤ 12 * 12 := Nat.mul_le_mul (by omega) (by omega)
  have e3 : ((jdg W7 0 13 : Nat) : Int) - 1 = ((jdg W7 0 13 - 1 : Nat) : Int) ∨ jdg W7 0 13 = 0 := by omega
  have e4 : ((jdg W7 1 13 : Nat) : Int) - 1 = ((jdg W7 1 13 - 1 : Nat) : Int) := by omega
  have e5 : -12 ≤ (((jdg W7 0 13 : Nat) : Int) - 1) * (((jdg W7 1 13 : Nat) : Int) - 1) ∧ (((jdg W7 0 13 : Nat) : Int) - 1) * (((jdg W7 1 13 : Nat) : Int) - 1) ≤ 144 ∧ ((((jdg W7 0 13 : Nat) : Int) - 1) * (((jdg W7 1 13 : Nat) : Int) - 1) ≤ 12 → (jdg W7 0 13 - 1) * (jdg W7 1 13 - 1) ≤ 12) := by
    rcases e3 with e3 | e3
    · rw [e3, e4, ← Int.natCast_mul]
      omega
    · rw [e3]
      omega
  refine mj_T.pl rfl rfl rfl rfl ?_
  refine mj_T.icmp (a := (((jdg W7 0 13 : Nat) : Int) - 1) * (((jdg W7 1 13 : Nat) : Int) - 1)) (b := 12) rfl ⟨by omega, by omega⟩ ⟨by decide, by decide⟩ (fun hc2 => ?_) (fun hc2 => ?_)
  · simp only [jc, decide_eq_true_eq] at hc2
    exact t62 (e5.2.2 hc2)
  iterate 2 refine mj_T.pl rfl rfl rfl rfl ?_
  refine mj_T.call (ins := .invokevirtual 198) rfl rfl (Nat.le_of_ble_eq_true rfl) (Nat.le_of_ble_eq_true rfl) (by simp [mj_recv, rS_f hs7]) rfl (mj_Ok.up (by decide) (rp_fails (D := 0) (c := 2) hs7)) (fun v' g9 hq' => ?_) (fun i h' hq' => by obtain ⟨_, _, h⟩ := hq'; cases h)
  obtain ⟨_, hs9, hq'⟩ := hq'
  cases hq'
  exact mj_T.ret rfl rfl rfl ⟨0, g9, ⟨by decide, by decide⟩, rfl, ⟨_, N, B, X, W7, hs9, K4.put ⟨by decide, by decide⟩ (by decide) (by decide) (by decide) (by decide) (by decide)⟩⟩
theorem rp_rb_loop {S N B X V : Nat → Int} {r x z : Nat} (hr : r ≤ 5) (hx : x < z) (hz : 2 ≤ z) (hz2 : z ≤ 97) (hN : ∀ j, j < 78 → jR (N j)) (hs : rS S N B T X V h) {Q : mj_R → Prop} (q0 : Q (.inl (some (.int (jn 0))), h)) (q1 : Q (.inl (some (.int (jn 1))), h)) :
    ∀ (m : Nat) (v : Int), m ≤ 13 → 0 ≤ v → v < z → mj_T 38 mj_m280 7 [some (.ref 0), some (.int (jn (r : Int))), some (.int (jn (x : Int))), some (.int (jn (z : Int))), some (.long (jl v)), none, some (.int (jn ((m : Int) - 1)))] [] h Q := by
  intro m
  induction m with
  | zero =>
    intro v hm v0 v1
    refine mj_T.pl rfl rfl rfl rfl ?_
    refine mj_T.if0 (a := ((0 : Nat) : Int) - 1) rfl ⟨by decide, by decide⟩ (fun hc => ?_) (fun hc => ?_)
    · iterate 2 refine mj_T.pl rfl rfl rfl rfl ?_
      refine mj_T.lif (a := v) (b := 0) rfl rfl ⟨by omega, by omega⟩ ⟨by decide, by decide⟩ (fun hc2 => ?_) (fun hc2 => ?_)
      · refine mj_T.pl rfl rfl rfl rfl ?_
        exact mj_T.ret rfl rfl rfl q0
      · iterate 2 refine mj_T.pl rfl rfl rfl rfl ?_
        exact mj_T.ret rfl rfl rfl q1
    · simp [jc] at hc
  | succ m ih =>
    intro v hm v0 v1
    refine mj_T.pl rfl rfl rfl rfl ?_
    refine mj_T.if0 (a := ((m + 1 : Nat) : Int) - 1) rfl ⟨by omega, by omega⟩ (fun hc => ?_) (fun hc => ?_)
    · simp only [jc, decide_eq_true_eq] at hc
      omega
    rw [show ((m + 1 : Nat) : Int) - 1 = (m : Int) by omega]
    iterate 2 refine mj_T.pl rfl rfl rfl rfl ?_
    refine mj_T.i2l rfl ⟨by omega, by omega⟩ ?_
    refine mj_T.lmul rfl ?_
    iterate 4 refine mj_T.pl rfl rfl rfl rfl ?_
    refine mj_T.call (ins := .invokevirtual 243) rfl rfl (Nat.le_of_ble_eq_true rfl) (Nat.le_of_ble_eq_true rfl) (by simp [mj_recv, rS_f hs]) rfl (mj_Ok.up (by decide) (rp_rest (D := 0) (r := r) (e := m) (x := z) hr (by omega) hz hz2 (hN _ (by omega)) hs)) (fun v' h' hq' => ?_) (fun i h' hq' => by obtain ⟨_, _, h⟩ := hq'; cases h)
    obtain ⟨w, ⟨w0, w1⟩, hq'⟩ := hq'
    cases hq'
    have hb : 0 ≤ v * (x : Int) ∧ v * (x : Int) ≤ 97 * 97 := ⟨Int.mul_nonneg v0 (by omega), Int.mul_le_mul (by omega) (by omega) (by omega) (by decide)⟩
    refine mj_T.ladd rfl ?_
    refine mj_T.pl rfl rfl rfl rfl ?_
    refine mj_T.i2l rfl ⟨by omega, by omega⟩ ?_
    have t1 := Int.tmod_lt_of_pos (v * (x : Int) + w) (show (0 : Int) < (z : Int) by omega)
    have t2 := Int.tmod_nonneg (z : Int) (show 0 ≤ v * (x : Int) + w by omega)
    refine mj_T.lrem (a := v * (x : Int) + w) (b := (z : Int)) rfl ⟨by omega, by omega⟩ ⟨by omega, by omega⟩ (by omega) ?_
    refine mj_T.pl rfl rfl rfl rfl ?_
    refine mj_T.iinc (a := (m : Int)) rfl rfl ?_
    refine mj_T.pl rfl rfl rfl rfl ?_
    exact ih _ (by omega) t2 t1
theorem rp_isRootBy {S N B X V : Nat → Int} {r x z : Nat} (hr : r ≤ 5) (hx : x < z) (hz : 2 ≤ z) (hz2 : z ≤ 97) (hN : ∀ j, j < 78 → jR (N j)) (hs : rS S N B T X V h) : mj_Ok 39 280 [.ref 0, .int (jn (r : Int)), .int (jn (x : Int)), .int (jn (z : Int))] h (fun q => (True ∧ q = (.inl (some (.int (jn 0))), h)) ∨ (True ∧ q = (.inl (some (.int (jn 1))), h))) := by
  refine mj_Ok.of (M := mj_m280) rfl rfl rfl ?_
  iterate 4 refine mj_T.pl rfl rfl rfl rfl ?_
  exact rp_rb_loop hr hx hz hz2 hN hs (Or.inl ⟨trivial, rfl⟩) (Or.inr ⟨trivial, rfl⟩) 13 0 (by omega) (by decide) (by omega)
theorem rp_rsb_loop {S N B X V : Nat → Int} {r z : Nat} (hr : r ≤ 5) (hz : 2 ≤ z) (hz2 : z ≤ 97) (hs : rS S N B T X V h) (K : jK tm er S N B T) :
    ∀ (m k c : Nat), k + m = z → c ≤ k → mj_T 39 mj_m281 36 [some (.ref 0), some (.int (jn (r : Int))), some (.int (jn (z : Int))), some (.int (jn (c : Int))), some (.int (jn (k : Int)))] [] h (rI tm er T) := by
  intro m
  induction m with
  | zero =>
    intro k c hk hc
    iterate 2 refine mj_T.pl rfl rfl rfl rfl ?_
    refine mj_T.icmp (a := (k : Int)) (b := (z : Int)) rfl ⟨by omega, by omega⟩ ⟨by omega, by omega⟩ (fun hc2 => ?_) (fun hc2 => ?_)
    · refine mj_T.pl rfl rfl rfl rfl ?_
      exact mj_T.ret rfl rfl rfl ⟨(c : Int), h, ⟨by omega, by omega⟩, rfl, ⟨_, _, _, _, _, hs, K⟩⟩
    · simp only [jc, decide_eq_false_iff_not] at hc2
      omega
  | succ m ih =>
    intro k c hk hc
    iterate 2 refine mj_T.pl rfl rfl rfl rfl ?_
    refine mj_T.icmp (a := (k : Int)) (b := (z : Int)) rfl ⟨by omega, by omega⟩ ⟨by omega, by omega⟩ (fun hc2 => ?_) (fun hc2 => ?_)
    · simp only [jc, decide_eq_true_eq] at hc2
      omega
    iterate 5 refine mj_T.pl rfl rfl rfl rfl ?_
    refine mj_T.call (ins := .invokevirtual 341) rfl rfl (Nat.le_of_ble_eq_true rfl) (Nat.le_of_ble_eq_true rfl) (by simp [mj_recv, rS_f hs]) rfl (mj_Ok.up (by decide) (rp_isRootBy (r := r) (x := k) (z := z) hr (by omega) hz hz2 K.nR hs)) (fun v' h' hq' => ?_) (fun i h' hq' => by rcases hq' with ⟨_, h⟩ | ⟨_, h⟩ <;> cases h)
    rcases hq' with ⟨_, hq'⟩ | ⟨_, hq'⟩
    · cases hq'
      refine mj_T.if0 (a := 0) rfl ⟨by decide, by decide⟩ (fun hc => ?_) (fun hc => ?_)
      rotate_left
      · simp [jc] at hc
      refine mj_T.pl rfl rfl rfl rfl ?_
      refine mj_T.iadd (a := (c : Int)) (b := 0) rfl ?_
      rw [show (c : Int) + 0 = ((c + 0 : Nat) : Int) by omega]
      refine mj_T.pl rfl rfl rfl rfl ?_
      refine mj_T.iinc (a := (k : Int)) rfl rfl ?_
      refine mj_T.pl rfl rfl rfl rfl ?_
      exact ih (k + 1) (c + 0) (by omega) (by omega)
    · cases hq'
      refine mj_T.if0 (a := 1) rfl ⟨by decide, by decide⟩ (fun hc => ?_) (fun hc => ?_)
      · simp [jc] at hc
      iterate 2 refine mj_T.pl rfl rfl rfl rfl ?_
      refine mj_T.iadd (a := (c : Int)) (b := 1) rfl ?_
      rw [show (c : Int) + 1 = ((c + 1 : Nat) : Int) by omega]
      refine mj_T.pl rfl rfl rfl rfl ?_
      refine mj_T.iinc (a := (k : Int)) rfl rfl ?_
      refine mj_T.pl rfl rfl rfl rfl ?_
      exact ih (k + 1) (c + 1) (by omega) (by omega)
theorem rp_rootsBy {x y : Int} (hx : jr x) (hy : jr y) (hI : jI tm er T h) : mj_Ok 40 281 [.ref 0, .int (jn x), .int (jn y)] h (rI tm er T) := by
  refine mj_Ok.of (M := mj_m281) rfl rfl rfl ?_
  obtain ⟨S, N, B, X, V, hs, K⟩ := hI
  iterate 2 refine mj_T.pl rfl rfl rfl rfl ?_
  refine rT_put (v := 0) hs rfl rfl (by decide) rfl (fun g10 hs10 => ?_)
  have K10 := K.put (k := 3) (v := 0) ⟨by decide, by decide⟩ (by decide) (by decide) (by decide) (by decide) (by decide)
  generalize jvu S 3 0 = S10 at hs10 K10
  refine mj_T.pl rfl rfl rfl rfl ?_
  refine mj_T.call (ins := .invokestatic 181) rfl rfl (Nat.le_of_ble_eq_true rfl) (Nat.le_of_ble_eq_true rfl) rfl rfl (mj_Ok.up (by decide) (rp_isRegister (D := 0) hx)) (fun v' h' hq' => ?_) (fun i h' hq' => by rcases hq' with ⟨_, _, h⟩ | ⟨_, h⟩ <;> cases h)
  rcases hq' with ⟨x1, x2, hq'⟩ | ⟨_, hq'⟩
  case' inr =>
    cases hq'
    refine mj_T.if0 (a := 0) rfl ⟨by decide, by decide⟩ (fun hc => ?_) (fun hc => ?_)
    · simp [jc] at hc
    iterate 2 refine mj_T.pl rfl rfl rfl rfl ?_
    refine mj_T.call (ins := .invokevirtual 198) rfl rfl (Nat.le_of_ble_eq_true rfl) (Nat.le_of_ble_eq_true rfl) (by simp [mj_recv, rS_f hs10]) rfl (mj_Ok.up (by decide) (rp_fails (D := 0) (c := 1) hs10)) (fun v' g11 hq' => ?_) (fun i h' hq' => by obtain ⟨_, _, h⟩ := hq'; cases h)
    obtain ⟨_, hs11, hq'⟩ := hq'
    cases hq'
    exact mj_T.ret rfl rfl rfl ⟨0, g11, ⟨by decide, by decide⟩, rfl, ⟨_, N, B, X, V, hs11, K10.put ⟨by decide, by decide⟩ (by decide) (by decide) (by decide) (by decide) (by decide)⟩⟩
  cases hq'
  refine mj_T.if0 (a := 1) rfl ⟨by decide, by decide⟩ (fun hc => ?_) (fun hc => ?_)
  rotate_left
  · simp [jc] at hc
  obtain ⟨x, rfl⟩ := Int.eq_ofNat_of_zero_le x1
  refine mj_T.pl rfl rfl rfl rfl ?_
  refine mj_T.call (ins := .invokestatic 240) rfl rfl (Nat.le_of_ble_eq_true rfl) (Nat.le_of_ble_eq_true rfl) rfl rfl (mj_Ok.up (by decide) (rp_isPrime hy)) (fun v' h' hq' => ?_) (fun i h' hq' => by rcases hq' with ⟨_, _, h⟩ | ⟨_, h⟩ <;> cases h)
  rcases hq' with ⟨y1, y2, hq'⟩ | ⟨_, hq'⟩
  case' inr =>
    cases hq'
    refine mj_T.if0 (a := 0) rfl ⟨by decide, by decide⟩ (fun hc => ?_) (fun hc => ?_)
    · simp [jc] at hc
    iterate 2 refine mj_T.pl rfl rfl rfl rfl ?_
    refine mj_T.call (ins := .invokevirtual 198) rfl rfl (Nat.le_of_ble_eq_true rfl) (Nat.le_of_ble_eq_true rfl) (by simp [mj_recv, rS_f hs10]) rfl (mj_Ok.up (by decide) (rp_fails (D := 0) (c := 2) hs10)) (fun v' g12 hq' => ?_) (fun i h' hq' => by obtain ⟨_, _, h⟩ := hq'; cases h)
    obtain ⟨_, hs12, hq'⟩ := hq'
    cases hq'
    exact mj_T.ret rfl rfl rfl ⟨0, g12, ⟨by decide, by decide⟩, rfl, ⟨_, N, B, X, V, hs12, K10.put ⟨by decide, by decide⟩ (by decide) (by decide) (by decide) (by decide) (by decide)⟩⟩
  cases hq'
  refine mj_T.if0 (a := 1) rfl ⟨by decide, by decide⟩ (fun hc => ?_) (fun hc => ?_)
  rotate_left
  · simp [jc] at hc
  obtain ⟨y, rfl⟩ := Int.eq_ofNat_of_zero_le (show 0 ≤ y by omega)
  iterate 4 refine mj_T.pl rfl rfl rfl rfl ?_
  exact rp_rsb_loop (by omega) (by omega) (by omega) hs10 K10 y 0 0 (by omega) (by decide)
theorem rp_rtb_loop {S N B X V : Nat → Int} {r z : Nat} (hr : r ≤ 5) (hz : 2 ≤ z) (hz2 : z ≤ 97) (hs : rS S N B T X V h) (K : jK tm er S N B T) :
    ∀ (m k : Nat), k + m = z → mj_T 39 mj_m282 33 [some (.ref 0), some (.int (jn (r : Int))), some (.int (jn (z : Int))), some (.int (jn (k : Int)))] [] h (rI tm er T) := by
  intro m
  induction m with
  | zero =>
    intro k hk
    iterate 2 refine mj_T.pl rfl rfl rfl rfl ?_
    refine mj_T.icmp (a := (k : Int)) (b := (z : Int)) rfl ⟨by omega, by omega⟩ ⟨by omega, by omega⟩ (fun hc2 => ?_) (fun hc2 => ?_)
    rotate_left
    · simp only [jc, decide_eq_false_iff_not] at hc2
      omega
    iterate 2 refine mj_T.pl rfl rfl rfl rfl ?_
    refine mj_T.call (ins := .invokevirtual 198) rfl rfl (Nat.le_of_ble_eq_true rfl) (Nat.le_of_ble_eq_true rfl) (by simp [mj_recv, rS_f hs]) rfl (mj_Ok.up (by decide) (rp_fails (D := 0) (c := 3) hs)) (fun v' g13 hq' => ?_) (fun i h' hq' => by obtain ⟨_, _, h⟩ := hq'; cases h)
    obtain ⟨_, hs13, hq'⟩ := hq'
    cases hq'
    exact mj_T.ret rfl rfl rfl ⟨0, g13, ⟨by decide, by decide⟩, rfl, ⟨_, N, B, X, V, hs13, K.put ⟨by decide, by decide⟩ (by decide) (by decide) (by decide) (by decide) (by decide)⟩⟩
  | succ m ih =>
    intro k hk
    iterate 2 refine mj_T.pl rfl rfl rfl rfl ?_
    refine mj_T.icmp (a := (k : Int)) (b := (z : Int)) rfl ⟨by omega, by omega⟩ ⟨by omega, by omega⟩ (fun hc2 => ?_) (fun hc2 => ?_)
    · simp only [jc, decide_eq_true_eq] at hc2
      omega
    iterate 4 refine mj_T.pl rfl rfl rfl rfl ?_
    refine mj_T.call (ins := .invokevirtual 341) rfl rfl (Nat.le_of_ble_eq_true rfl) (Nat.le_of_ble_eq_true rfl) (by simp [mj_recv, rS_f hs]) rfl (mj_Ok.up (by decide) (rp_isRootBy (r := r) (x := k) (z := z) hr (by omega) hz hz2 K.nR hs)) (fun v' h' hq' => ?_) (fun i h' hq' => by rcases hq' with ⟨_, h⟩ | ⟨_, h⟩ <;> cases h)
    rcases hq' with ⟨_, hq'⟩ | ⟨_, hq'⟩
    · cases hq'
      refine mj_T.if0 (a := 0) rfl ⟨by decide, by decide⟩ (fun hc => ?_) (fun hc => ?_)
      rotate_left
      · simp [jc] at hc
      refine mj_T.iinc (a := (k : Int)) rfl rfl ?_
      refine mj_T.pl rfl rfl rfl rfl ?_
      exact ih (k + 1) (by omega)
    · cases hq'
      refine mj_T.if0 (a := 1) rfl ⟨by decide, by decide⟩ (fun hc => ?_) (fun hc => ?_)
      · simp [jc] at hc
      refine mj_T.pl rfl rfl rfl rfl ?_
      exact mj_T.ret rfl rfl rfl ⟨(k : Int), h, ⟨by omega, by omega⟩, rfl, ⟨_, _, _, _, _, hs, K⟩⟩
theorem rp_rootBy {x y : Int} (hx : jr x) (hy : jr y) (hI : jI tm er T h) : mj_Ok 40 282 [.ref 0, .int (jn x), .int (jn y)] h (rI tm er T) := by
  refine mj_Ok.of (M := mj_m282) rfl rfl rfl ?_
  obtain ⟨S, N, B, X, V, hs, K⟩ := hI
  iterate 2 refine mj_T.pl rfl rfl rfl rfl ?_
  refine rT_put (v := 0) hs rfl rfl (by decide) rfl (fun g14 hs14 => ?_)
  have K14 := K.put (k := 3) (v := 0) ⟨by decide, by decide⟩ (by decide) (by decide) (by decide) (by decide) (by decide)
  generalize jvu S 3 0 = S14 at hs14 K14
  refine mj_T.pl rfl rfl rfl rfl ?_
  refine mj_T.call (ins := .invokestatic 181) rfl rfl (Nat.le_of_ble_eq_true rfl) (Nat.le_of_ble_eq_true rfl) rfl rfl (mj_Ok.up (by decide) (rp_isRegister (D := 0) hx)) (fun v' h' hq' => ?_) (fun i h' hq' => by rcases hq' with ⟨_, _, h⟩ | ⟨_, h⟩ <;> cases h)
  rcases hq' with ⟨x1, x2, hq'⟩ | ⟨_, hq'⟩
  case' inr =>
    cases hq'
    refine mj_T.if0 (a := 0) rfl ⟨by decide, by decide⟩ (fun hc => ?_) (fun hc => ?_)
    · simp [jc] at hc
    iterate 2 refine mj_T.pl rfl rfl rfl rfl ?_
    refine mj_T.call (ins := .invokevirtual 198) rfl rfl (Nat.le_of_ble_eq_true rfl) (Nat.le_of_ble_eq_true rfl) (by simp [mj_recv, rS_f hs14]) rfl (mj_Ok.up (by decide) (rp_fails (D := 0) (c := 1) hs14)) (fun v' g15 hq' => ?_) (fun i h' hq' => by obtain ⟨_, _, h⟩ := hq'; cases h)
    obtain ⟨_, hs15, hq'⟩ := hq'
    cases hq'
    exact mj_T.ret rfl rfl rfl ⟨0, g15, ⟨by decide, by decide⟩, rfl, ⟨_, N, B, X, V, hs15, K14.put ⟨by decide, by decide⟩ (by decide) (by decide) (by decide) (by decide) (by decide)⟩⟩
  cases hq'
  refine mj_T.if0 (a := 1) rfl ⟨by decide, by decide⟩ (fun hc => ?_) (fun hc => ?_)
  rotate_left
  · simp [jc] at hc
  obtain ⟨x, rfl⟩ := Int.eq_ofNat_of_zero_le x1
  refine mj_T.pl rfl rfl rfl rfl ?_
  refine mj_T.call (ins := .invokestatic 240) rfl rfl (Nat.le_of_ble_eq_true rfl) (Nat.le_of_ble_eq_true rfl) rfl rfl (mj_Ok.up (by decide) (rp_isPrime hy)) (fun v' h' hq' => ?_) (fun i h' hq' => by rcases hq' with ⟨_, _, h⟩ | ⟨_, h⟩ <;> cases h)
  rcases hq' with ⟨y1, y2, hq'⟩ | ⟨_, hq'⟩
  case' inr =>
    cases hq'
    refine mj_T.if0 (a := 0) rfl ⟨by decide, by decide⟩ (fun hc => ?_) (fun hc => ?_)
    · simp [jc] at hc
    iterate 2 refine mj_T.pl rfl rfl rfl rfl ?_
    refine mj_T.call (ins := .invokevirtual 198) rfl rfl (Nat.le_of_ble_eq_true rfl) (Nat.le_of_ble_eq_true rfl) (by simp [mj_recv, rS_f hs14]) rfl (mj_Ok.up (by decide) (rp_fails (D := 0) (c := 2) hs14)) (fun v' g16 hq' => ?_) (fun i h' hq' => by obtain ⟨_, _, h⟩ := hq'; cases h)
    obtain ⟨_, hs16, hq'⟩ := hq'
    cases hq'
    exact mj_T.ret rfl rfl rfl ⟨0, g16, ⟨by decide, by decide⟩, rfl, ⟨_, N, B, X, V, hs16, K14.put ⟨by decide, by decide⟩ (by decide) (by decide) (by decide) (by decide) (by decide)⟩⟩
  cases hq'
  refine mj_T.if0 (a := 1) rfl ⟨by decide, by decide⟩ (fun hc => ?_) (fun hc => ?_)
  rotate_left
  · simp [jc] at hc
  obtain ⟨y, rfl⟩ := Int.eq_ofNat_of_zero_le (show 0 ≤ y by omega)
  iterate 2 refine mj_T.pl rfl rfl rfl rfl ?_
  exact rp_rtb_loop (by omega) (by omega) (by omega) hs14 K14 y 0 (by omega)
end RPU
