/-! More rules: known fields, constants, lengths, conditions. -/
def jVp (p : Prop) (v : Option Value) : Prop := v = none ∧ p
section JTD
variable {D pc : Nat} {M : mj_M} {loc : mj_L} {st : List Value} {h : mj_H} {Q : mj_R → Prop} {r1 r2 r3 r4 r5 : Nat}
variable {K L : Nat → Nat} {R : Nat → Nat → Nat} {g : mj_H} {n : Nat} {tm : Int}
theorem jT.getK {a f c i : Nat} (k cd : Nat) {x : Int} (o : jO K L R g n tm h) (hc : M.2.2.2.2.1 pc = some (.getfield f, c, i, r3, r4, r5)) (ka : K a = k) (hk : 7 < k) (hcl : jkc k = c) (hcd : (jfs k)[i]? = some cd) (hci : jci cd = true) (hx : jfI h a i = x) (q : mj_T D M (pc + 3) loc (.int (jn x) :: st) h Q) : mj_T D M pc loc (.ref a :: st) h Q :=
  jT.getI k cd o hc ka hk hcl hcd hci (fun z _ _ e => by rw [e, hx]; exact q)
theorem jl_nat (w : Nat) : Int64.ofNat w = jl (w : Int) := by
  first
    | exact Int64.ofInt_eq_ofNat.symm
    | exact (Int64.ofInt_eq_ofNat w).symm
    | (show (⟨⟨BitVec.ofNat 64 w⟩⟩ : Int64) = ⟨⟨BitVec.ofInt 64 w⟩⟩; rw [BitVec.ofInt_natCast])
    | rfl
theorem jn_nat0 (w : Nat) : Int32.ofNat w = jn (w : Int) := by
  first
    | exact Int32.ofInt_eq_ofNat.symm
    | exact (Int32.ofInt_eq_ofNat w).symm
    | (show (⟨⟨BitVec.ofNat 32 w⟩⟩ : Int32) = ⟨⟨BitVec.ofInt 32 w⟩⟩; rw [BitVec.ofInt_natCast])
    | rfl
theorem jT.ldcL {x : Nat} {w : Nat} (hc : M.2.2.2.2.1 pc = some (.ldc2_w x, w, 0, r3, r4, r5)) (q : mj_T D M (pc + 3) loc (.long (jl (w : Int)) :: st) h Q) : mj_T D M pc loc st h Q := by
  rw [← jl_nat] at q
  exact mj_T.step hc rfl rfl q
theorem jT.ldcI {x : Nat} {w : Nat} (hc : M.2.2.2.2.1 pc = some (.ldc x, w, 0, r3, r4, r5)) (q : mj_T D M (pc + 2) loc (.int (jn (w : Int)) :: st) h Q) : mj_T D M pc loc st h Q := by
  rw [← jn_nat0] at q
  exact mj_T.step hc rfl rfl q
theorem jT.lc (w : Nat) {x : Fin 2} (hc : M.2.2.2.2.1 pc = some (.lconst x, r1, r2, r3, r4, r5)) (hw : x.val = w) (q : mj_T D M (pc + 1) loc (.long (jl (w : Int)) :: st) h Q) : mj_T D M pc loc st h Q := by
  rw [← jl_nat] at q
  subst hw
  exact mj_T.step hc rfl rfl q
theorem jlen {a : Nat} (k : Nat) (ty : jTY K L R) (ka : K a = k) (hk : 1 ≤ k) (hk2 : k ≤ 7) : jal k ≤ (L a : Int) ∧ (L a : Int) ≤ jah k := by
  have h2 := ty.2.1 a (by omega) (by omega)
  rw [ka] at h2
  exact h2
theorem jT.getRE {a f : Nat} (ty : jTY K L R) (o : jO K L R g n tm h) (hc : M.2.2.2.2.1 pc = some (.getfield f, 7, 0, r3, r4, r5)) (ka : K a = 17 ∨ K a = 27) (q : K (R a 0) = 3 → mj_T D M (pc + 3) loc (.ref (R a 0) :: st) h Q) : mj_T D M pc loc (.ref a :: st) h Q := by
  rcases ka with ka | ka
  · exact jT.getR 17 103 3 ty o hc ka (by decide) rfl rfl rfl q
  · exact jT.getR 27 103 3 ty o hc ka (by decide) rfl rfl rfl q
theorem jne1 {p : Prop} [Decidable p] (q : (!decide p) = true) : ¬ p := by simpa using q
theorem jne2 {p : Prop} [Decidable p] (q : (!decide p) = false) : p := by simpa using q
theorem jInd {P : Nat → Prop} (q : ∀ k, (∀ m, m < k → P m) → P k) (k : Nat) : P k := Nat.strongRecOn k q
theorem jrv_ofE {a r2 : Nat} (o : jO K L R g n tm h) (ka : K a = 17 ∨ K a = 27) (hr : 1 ≤ r2) (hd : st.drop (r2 - 1) = .ref a :: st.drop r2) : ∀ m, mj_recv (.invokevirtual m) r2 7 st h = true := by
  rcases ka with ka | ka
  · exact jrv_of o ka (by decide) rfl hr hd
  · exact jrv_of o ka (by decide) rfl hr hd
theorem jsq {i z : Int} (h : 2 ≤ i ∧ i ≤ 10) (e : (-2147483648 ≤ i * i ∧ i * i ≤ 2147483647) → z = i * i) : z ≤ 97 → i ≤ 9 := by
  intro hz
  by_cases c : i ≤ 9
  · exact c
  · have c2 : i = 10 := by omega
    subst c2
    have := e ⟨by decide, by decide⟩
    omega
/-- ten to the i -/
def jPW (i u : Int) : Prop := ∃ k : Nat, i = (k : Int) ∧ k ≤ 18 ∧ u = 10 ^ k
theorem jPW.s {i u i' u' : Int} (q : jPW i u) (h : i < 18) (h1 : i' = i + 1) (h2 : u' = u * 10) : jPW i' u' := by
  obtain ⟨k, a, b, c⟩ := q
  exact ⟨k + 1, by omega, by omega, by rw [h2, c, Int.pow_succ]⟩
theorem jPW.b {i u : Int} (q : jPW i u) : 0 < u ∧ (i < 18 → u ≤ 100000000000000000) ∧ u ≤ 1000000000000000000 := by
  obtain ⟨k, a, b, c⟩ := q
  subst c
  have h1 : ∀ k : Nat, k ≤ 18 → (0 < (10 : Int) ^ k ∧ (k < 18 → (10 : Int) ^ k ≤ 100000000000000000) ∧ (10 : Int) ^ k ≤ 1000000000000000000) := by decide
  obtain ⟨h2, h3, h4⟩ := h1 k b
  exact ⟨h2, fun h => h3 (by omega), h4⟩
def jVd (v : Option Value) : Prop := ∃ x, v = some (.double x)
def jVf (v : Option Value) : Prop := ∃ k : Nat, k < 10 ∧ v = some (.float (FP.fdiv (FP.i2f (Int32.ofNat k)) (UInt32.ofNat 1086324736)))
theorem jmean : ∀ k, k < 118 → FP.ddiv (FP.i2d (Int32.ofNat k)) (UInt64.ofNat 4618441417868443648) &&& 0x7fffffffffffffff ≤ 0x7ff0000000000000 := by decide +kernel
theorem jshare : ∀ k, k < 10 → FP.fdiv (FP.i2f (Int32.ofNat k)) (UInt32.ofNat 1086324736) &&& 0x7fffffff ≤ 0x7f800000 := by decide +kernel
theorem jT.mean {z : Int} {x y : Nat} {exc : List Nat} (hz : 0 ≤ z ∧ z ≤ 117) {q1 q2 q3 q4 q5 : Nat} {s1 s2 s3 s4 s5 : Nat} {t1 t2 t3 t4 t5 : Nat} {w3 w4 w5 : Nat} (h1 : M.2.2.2.2.1 pc = some (.i2d, q1, q2, q3, q4, q5)) (h2 : M.2.2.2.2.1 (pc + 1) = some (.ldc2_w x, 4618441417868443648, 1, w3, w4, w5)) (h3 : M.2.2.2.2.1 (pc + 1 + 3) = some (.ddiv, s1, s2, s3, s4, s5)) (h4 : M.2.2.2.2.1 (pc + 1 + 3 + 1) = some (.dreturn, t1, t2, t3, t4, t5)) (hr : M.2.2.2.1 = some .double) : mj_T D M pc loc [.int (jn z)] h (jQp K L R g n tm h exc jVd) := by
  refine mj_T.step h1 rfl rfl (mj_T.step h2 rfl rfl (mj_T.step (st' := [.double (FP.ddiv (FP.i2d (jn z)) (UInt64.ofNat 4618441417868443648))]) (h' := h) (loc' := loc) (pc' := pc + 1 + 3 + 1) h3 rfl ?_ (mj_T.ret h4 rfl (v := some (.double (FP.ddiv (FP.i2d (jn z)) (UInt64.ofNat 4618441417868443648)))) ?_ ⟨⟨_, rfl⟩, rfl⟩)))
  · obtain ⟨k, rfl⟩ : ∃ k : Nat, z = (k : Int) := ⟨z.toNat, by omega⟩
    have := jmean k (by omega)
    rw [jn_nat0] at this
    simp only [mj_step]
    rw [if_pos this]
  · simp only [mj_retv, hr]
theorem jT.share {z : Int} {x y : Nat} {exc : List Nat} (hz : 0 ≤ z ∧ z ≤ 9) {q1 q2 q3 q4 q5 : Nat} {s1 s2 s3 s4 s5 : Nat} {t1 t2 t3 t4 t5 : Nat} {w3 w4 w5 : Nat} (h1 : M.2.2.2.2.1 pc = some (.i2f, q1, q2, q3, q4, q5)) (h2 : M.2.2.2.2.1 (pc + 1) = some (.ldc_w x, 1086324736, 1, w3, w4, w5)) (h3 : M.2.2.2.2.1 (pc + 1 + 3) = some (.fdiv, s1, s2, s3, s4, s5)) (h4 : M.2.2.2.2.1 (pc + 1 + 3 + 1) = some (.freturn, t1, t2, t3, t4, t5)) (hr : M.2.2.2.1 = some .float) : mj_T D M pc loc [.int (jn z)] h (jQp K L R g n tm h exc jVf) := by
  refine mj_T.step h1 rfl rfl (mj_T.step h2 rfl rfl (mj_T.step (st' := [.float (FP.fdiv (FP.i2f (jn z)) (UInt32.ofNat 1086324736))]) (h' := h) (loc' := loc) (pc' := pc + 1 + 3 + 1) h3 rfl ?_ (mj_T.ret h4 rfl (v := some (.float (FP.fdiv (FP.i2f (jn z)) (UInt32.ofNat 1086324736)))) ?_ ⟨⟨z.toNat, by omega, by rw [jn_nat0, Int.toNat_of_nonneg hz.1]⟩, rfl⟩)))
  · obtain ⟨k, rfl⟩ : ∃ k : Nat, z = (k : Int) := ⟨z.toNat, by omega⟩
    have := jshare k (by omega)
    rw [jn_nat0] at this
    simp only [mj_step]
    rw [if_pos this]
  · simp only [mj_retv, hr]
end JTD
