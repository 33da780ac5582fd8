/-! The fast machine: what it does. -/
abbrev mq_Kt : Type := List mq_W → List mq_W → Nat → mq_Ht → mq_V → Bool
abbrev mq_X : Type := List mq_W → List mq_W → Nat → mq_Ht → mq_V → mq_Kt → Bool
noncomputable def mq_and (a b : Bool) : Bool := Bool.rec (motive := fun _ => Bool) false b a
noncomputable def mq_all (n : Nat) (f : Nat → Bool) : Bool := Nat.rec (motive := fun _ => Bool) true (fun m ih => mq_and (f m) ih) n
noncomputable def mq_bd (env : mq_V) (i : Nat) : Nat × Nat := mq_nth (0, (nat_lit 4294967295)) env i
noncomputable def mq_nar (env : mq_V) (i lo hi : Nat) : mq_V := mq_nup (0, (nat_lit 4294967295)) env i (lo, hi)
/-- each value of a symbol, if they are few -/
noncomputable def mq_fork (env : mq_V) (i : Nat) (k : Nat → mq_V → Bool) : Bool := match mq_bd env i with
  | (lo, hi) => (Bool.rec (motive := fun _ => Bool) false (mq_all (Nat.add (Nat.sub hi lo) (nat_lit 1)) fun d => k (Nat.add lo d) (mq_nar env i (Nat.add lo d) (Nat.add lo d))) (Nat.ble (Nat.sub hi lo) (nat_lit 127)))
noncomputable def mq_split (env : mq_V) (i t : Nat) (kb ka : mq_V → Bool) : Bool := match mq_bd env i with
  | (lo, hi) => mq_and (cond (Nat.ble t lo) true (kb (mq_nar env i lo (cond (Nat.ble t hi) (Nat.sub t (nat_lit 1)) hi)))) (cond (Nat.ble t hi) (ka (mq_nar env i (cond (Nat.ble lo t) t lo) hi)) true)
noncomputable def mq_ev (o m c : Nat) : Nat := Nat.mod (Nat.add (Nat.add (Nat.mul o m) (Nat.mul (nat_lit 2147483648) m)) c) (nat_lit 4294967296)
noncomputable def mq_vI3 (r : mq_W3) : mq_V → (Nat → mq_V → Bool) → Bool := Sum.rec (motive := fun _ => mq_V → (Nat → mq_V → Bool) → Bool) (fun q env k => Prod.rec (motive := fun _ => Bool) (fun i q => Prod.rec (motive := fun _ => Bool) (fun m c => mq_fork env i fun o e => k (mq_ev o m c) e) q) q) (fun _ _ _ => false) r
noncomputable def mq_vI2 (r : Sum Nat (Sum Nat mq_W3)) : mq_V → (Nat → mq_V → Bool) → Bool := Sum.rec (motive := fun _ => mq_V → (Nat → mq_V → Bool) → Bool) (fun _ _ _ => false) (fun r => Sum.rec (motive := fun _ => mq_V → (Nat → mq_V → Bool) → Bool) (fun _ _ _ => false) mq_vI3 r) r
noncomputable def mq_vI (w : mq_W) (env : mq_V) (k : Nat → mq_V → Bool) : Bool := Sum.rec (motive := fun _ => mq_V → (Nat → mq_V → Bool) → Bool) (fun n env k => k n env) mq_vI2 w env k
noncomputable def mq_vJ3 (r : mq_W3) : mq_V → (Nat → mq_V → Bool) → Bool := Sum.rec (motive := fun _ => mq_V → (Nat → mq_V → Bool) → Bool) (fun _ _ _ => false) (fun r => Sum.rec (motive := fun _ => mq_V → (Nat → mq_V → Bool) → Bool) (fun i env k => mq_fork env i fun o e => k (Nat.mod (Nat.add o (nat_lit 18446744071562067968)) (nat_lit 18446744073709551616)) e) (fun _ _ _ => false) r) r
noncomputable def mq_vJ2 (r : Sum Nat (Sum Nat mq_W3)) : mq_V → (Nat → mq_V → Bool) → Bool := Sum.rec (motive := fun _ => mq_V → (Nat → mq_V → Bool) → Bool) (fun _ _ _ => false) (fun r => Sum.rec (motive := fun _ => mq_V → (Nat → mq_V → Bool) → Bool) (fun n env k => k n env) mq_vJ3 r) r
noncomputable def mq_vJ (w : mq_W) (env : mq_V) (k : Nat → mq_V → Bool) : Bool := Sum.rec (motive := fun _ => mq_V → (Nat → mq_V → Bool) → Bool) (fun _ _ _ => false) mq_vJ2 w env k
noncomputable def mq_hd (l : List Nat) : Nat := match l with
  | [] => 0
  | x :: _ => x
noncomputable def mq_vA3 (r : Sum Nat mq_W3) : mq_V → (Nat → mq_V → Bool) → Bool := Sum.rec (motive := fun _ => mq_V → (Nat → mq_V → Bool) → Bool) (fun _ _ _ => false) (fun r => Sum.rec (motive := fun _ => mq_V → (Nat → mq_V → Bool) → Bool) (fun _ _ _ => false) (fun r => Sum.rec (motive := fun _ => mq_V → (Nat → mq_V → Bool) → Bool) (fun _ _ _ => false) (fun r => Sum.rec (motive := fun _ => mq_V → (Nat → mq_V → Bool) → Bool) (fun q env k => Prod.rec (motive := fun _ => Bool) (fun i q => Prod.rec (motive := fun _ => Bool) (fun lo l => mq_fork env i fun o e => k (mq_nth (mq_hd l) l (Nat.sub o lo)) e) q) q) (fun _ _ _ => false) r) r) r) r
noncomputable def mq_vA2 (r : Sum Nat (Sum Nat mq_W3)) : mq_V → (Nat → mq_V → Bool) → Bool := Sum.rec (motive := fun _ => mq_V → (Nat → mq_V → Bool) → Bool) (fun a env k => k a env) mq_vA3 r
noncomputable def mq_vA (w : mq_W) (env : mq_V) (k : Nat → mq_V → Bool) : Bool := Sum.rec (motive := fun _ => mq_V → (Nat → mq_V → Bool) → Bool) (fun _ _ _ => false) mq_vA2 w env k
noncomputable def mq_pI (st : List mq_W) (env : mq_V) (k : Nat → List mq_W → mq_V → Bool) : Bool := List.rec (motive := fun _ => mq_V → (Nat → List mq_W → mq_V → Bool) → Bool) (fun _ _ => false) (fun w s _ env k => mq_vI w env fun x e => k x s e) st env k
noncomputable def mq_pJ (st : List mq_W) (env : mq_V) (k : Nat → List mq_W → mq_V → Bool) : Bool := List.rec (motive := fun _ => mq_V → (Nat → List mq_W → mq_V → Bool) → Bool) (fun _ _ => false) (fun w s _ env k => mq_vJ w env fun x e => k x s e) st env k
noncomputable def mq_pA (st : List mq_W) (env : mq_V) (k : Nat → List mq_W → mq_V → Bool) : Bool := List.rec (motive := fun _ => mq_V → (Nat → List mq_W → mq_V → Bool) → Bool) (fun _ _ => false) (fun w s _ env k => mq_vA w env fun x e => k x s e) st env k
noncomputable def mq_p1 (st : List mq_W) (k : mq_W → List mq_W → Bool) : Bool := List.rec (motive := fun _ => (mq_W → List mq_W → Bool) → Bool) (fun _ => false) (fun w s _ k => k w s) st k
/-- of that kind: 0 int, 1 long, 2 a place, 3 double, 5 float -/
noncomputable def mq_kdc (r : mq_W3) : Nat → Bool := Sum.rec (motive := fun _ => Nat → Bool) (fun _ k => Nat.beq k (nat_lit 0)) (fun r => Sum.rec (motive := fun _ => Nat → Bool) (fun _ k => Nat.beq k (nat_lit 1)) (fun r => Sum.rec (motive := fun _ => Nat → Bool) (fun _ k => Nat.beq k (nat_lit 2)) (fun r => Sum.rec (motive := fun _ => Nat → Bool) (fun _ k => Nat.beq k (nat_lit 3)) (fun r => Sum.rec (motive := fun _ => Nat → Bool) (fun _ k => Nat.beq k (nat_lit 5)) (fun r => Option.rec (motive := fun _ => Nat → Bool) (fun _ => false) (fun r => Option.rec (motive := fun _ => Nat → Bool) (fun _ => false) (fun _ k => Nat.beq k (nat_lit 1)) r) r) r) r) r) r) r
noncomputable def mq_kdb (r : Sum Nat (Sum Nat mq_W3)) : Nat → Bool := Sum.rec (motive := fun _ => Nat → Bool) (fun _ k => Nat.beq k (nat_lit 2)) (fun r => Sum.rec (motive := fun _ => Nat → Bool) (fun _ k => Nat.beq k (nat_lit 1)) mq_kdc r) r
noncomputable def mq_kd (k : Nat) (w : mq_W) : Bool := Sum.rec (motive := fun _ => Nat → Bool) (fun _ k => Nat.beq k (nat_lit 0)) mq_kdb w k
noncomputable def mq_kn3 (r : mq_W3) : Bool := Sum.rec (motive := fun _ => Bool) (fun _ => true) (fun r => Sum.rec (motive := fun _ => Bool) (fun _ => true) (fun r => Sum.rec (motive := fun _ => Bool) (fun _ => true) (fun r => Sum.rec (motive := fun _ => Bool) (fun _ => true) (fun r => Sum.rec (motive := fun _ => Bool) (fun _ => true) (fun r => Option.rec (motive := fun _ => Bool) true (fun r => Option.rec (motive := fun _ => Bool) false (fun _ => true) r) r) r) r) r) r) r
noncomputable def mq_kn (w : mq_W) : Bool := Sum.rec (motive := fun _ => Bool) (fun _ => true) (fun r => Sum.rec (motive := fun _ => Bool) (fun _ => true) (fun r => Sum.rec (motive := fun _ => Bool) (fun _ => true) (fun r => mq_kn3 r) r) r) w
noncomputable def mq_kill3 (r : mq_W3) : mq_W := Sum.rec (motive := fun _ => mq_W) (fun q => (Sum.inr (Sum.inr (Sum.inr (Sum.inl q))))) (fun r => Sum.rec (motive := fun _ => mq_W) (fun _ => mq_U) (fun r => Sum.rec (motive := fun _ => mq_W) (fun q => (Sum.inr (Sum.inr (Sum.inr (Sum.inr (Sum.inr (Sum.inl q))))))) (fun r => Sum.rec (motive := fun _ => mq_W) (fun _ => mq_U) (fun r => Sum.rec (motive := fun _ => mq_W) (fun x => (Sum.inr (Sum.inr (Sum.inr (Sum.inr (Sum.inr (Sum.inr (Sum.inr (Sum.inl x))))))))) (fun r => Option.rec (motive := fun _ => mq_W) (Sum.inr (Sum.inr (Sum.inr (Sum.inr (Sum.inr (Sum.inr (Sum.inr (Sum.inr none)))))))) (fun _ => mq_U) r) r) r) r) r) r
noncomputable def mq_kill (w : mq_W) : mq_W := Sum.rec (motive := fun _ => mq_W) (fun n => Sum.inl n) (fun r => Sum.rec (motive := fun _ => mq_W) (fun a => Sum.inr (Sum.inl a)) (fun r => Sum.rec (motive := fun _ => mq_W) (fun _ => mq_U) (fun r => mq_kill3 r) r) r) w
/-- the word ahead of a word that is set, if it is of two -/
noncomputable def mq_kc2 (r : Sum Nat (Sum Nat mq_W3)) : List mq_W → List mq_W := Sum.rec (motive := fun _ => List mq_W → List mq_W) (fun a l => Sum.inr (Sum.inl a) :: l) (fun r => Sum.rec (motive := fun _ => List mq_W → List mq_W) (fun _ l => mq_U :: l) (fun r l => mq_kill3 r :: l) r) r
noncomputable def mq_kc (w : mq_W) (l : List mq_W) : List mq_W := Sum.rec (motive := fun _ => List mq_W → List mq_W) (fun n l => Sum.inl n :: l) mq_kc2 w l
noncomputable def mq_up1 (l : List mq_W) : Nat → mq_W → List mq_W := List.rec (motive := fun _ => Nat → mq_W → List mq_W) (fun i v => Nat.rec (motive := fun _ => List mq_W) [v] (fun _ t => (Sum.inr (Sum.inr (Sum.inr (Sum.inr (Sum.inr (Sum.inr (Sum.inr (Sum.inr (some none))))))))) :: t) i) (fun x t ih i v => Nat.rec (motive := fun _ => mq_W → List mq_W → (Nat → mq_W → List mq_W) → mq_W → List mq_W) (fun _ t _ v => v :: t) (fun m _ x _ ih v => Nat.rec (motive := fun _ => mq_W → (Nat → mq_W → List mq_W) → mq_W → List mq_W) (fun x ih v => mq_kc x (ih 0 v)) (fun m _ x ih v => x :: ih (Nat.succ m) v) m x ih v) i x t ih v) l
noncomputable def mq_up2 (l : List mq_W) (i : Nat) (v : mq_W) : List mq_W := mq_nup (Sum.inr (Sum.inr (Sum.inr (Sum.inr (Sum.inr (Sum.inr (Sum.inr (Sum.inr (some none))))))))) (mq_up1 l i v) (Nat.add i (nat_lit 1)) (Sum.inr (Sum.inr (Sum.inr (Sum.inr (Sum.inr (Sum.inr (Sum.inr (Sum.inr (some none)))))))))
noncomputable def mq_cmp (c : ClassFile.Cond) (x y : Nat) : Bool := ClassFile.Cond.rec (motive := fun _ => Nat → Nat → Bool) (fun x y => Nat.beq x y) (fun x y => Bool.rec (motive := fun _ => Bool) true false (Nat.beq x y)) (fun x y => Nat.ble (Nat.add x (nat_lit 1)) y) (fun x y => Nat.ble y x) (fun x y => Nat.ble (Nat.add y (nat_lit 1)) x) (fun x y => Nat.ble x y) c x y
def mq_sw (c : ClassFile.Cond) : ClassFile.Cond := match c with
  | .eq => .eq
  | .ne => .ne
  | .lt => .gt
  | .ge => .le
  | .gt => .lt
  | .le => .ge
/-- a symbol against a number: below t1 it is less, from t2 on greater -/
noncomputable def mq_cs (c : ClassFile.Cond) (env : mq_V) (i t1 t2 : Nat) (k : Bool → mq_V → Bool) : Bool := match c with
  | .lt => mq_split env i t1 (fun e => k true e) (fun e => k false e)
  | .ge => mq_split env i t1 (fun e => k false e) (fun e => k true e)
  | .le => mq_split env i t2 (fun e => k true e) (fun e => k false e)
  | .gt => mq_split env i t2 (fun e => k false e) (fun e => k true e)
  | .eq => mq_split env i t1 (fun e => k false e) (fun e => mq_split e i t2 (fun e => k true e) (fun e => k false e))
  | .ne => mq_split env i t1 (fun e => k true e) (fun e => mq_split e i t2 (fun e => k false e) (fun e => k true e))
/-- s * m + cc against the number of that shift -/
noncomputable def mq_cF (c : ClassFile.Cond) (env : mq_V) (i m cc oc : Nat) (k : Bool → mq_V → Bool) : Bool := mq_fork env i fun o e => k (mq_cmp c (mq_o32 (mq_ev o m cc)) oc) e
noncomputable def mq_cE (c : ClassFile.Cond) (env : mq_V) (i m cc oc : Nat) (k : Bool → mq_V → Bool) : Bool := Bool.rec (motive := fun _ => Bool) (mq_cF c env i m cc oc k) (Bool.rec (motive := fun _ => Bool)
  (match mq_bd env i with
    | (lo, hi) => Bool.rec (motive := fun _ => Bool) (Bool.rec (motive := fun _ => Bool) (mq_cF c env i m cc oc k) (mq_cs c env i (Nat.sub oc cc) (Nat.sub (Nat.add oc (nat_lit 1)) cc) k) (Nat.ble (Nat.add (Nat.add hi cc) (nat_lit 1)) (nat_lit 4294967296)))
      (Bool.rec (motive := fun _ => Bool) (mq_cF c env i m cc oc k) (mq_cs c env i (Nat.add oc (Nat.sub (nat_lit 4294967296) cc)) (Nat.add (Nat.add oc (Nat.sub (nat_lit 4294967296) cc)) (nat_lit 1)) k) (mq_and (Nat.ble (Nat.sub (nat_lit 4294967296) cc) lo) (Nat.ble cc (nat_lit 4294967296)))) (Nat.ble (nat_lit 2147483648) cc))
  (mq_cs c env i oc (Nat.add oc (nat_lit 1)) k) (Nat.beq cc 0)) (Nat.beq m 1)
/-- whether two symbols are the same: by the symbol that says so -/
noncomputable def mq_cZ (c : ClassFile.Cond) (env : mq_V) (k : Bool → mq_V → Bool) : Bool := match c with
  | .eq => mq_split env 11 1 (fun e => k true e) (fun e => k false e)
  | .ne => mq_split env 11 1 (fun e => k false e) (fun e => k true e)
  | _ => false
noncomputable def mq_cI2 (c : ClassFile.Cond) (wx wy : mq_W) (env : mq_V) (k : Bool → mq_V → Bool) : Bool := match wx, wy with
  | .inl x, .inr (.inr (.inr (.inl (i, m, cc)))) => mq_cE (mq_sw c) env i m cc (mq_o32 x) k
  | .inr (.inr (.inr (.inl (i, m, cc)))), .inl y => mq_cE c env i m cc (mq_o32 y) k
  | .inr (.inr (.inr (.inl (i, m, cc)))), .inr (.inr (.inr (.inl (i2, m2, cc2)))) => Bool.rec (motive := fun _ => Bool) (Bool.rec (motive := fun _ => Bool) (mq_fork env i fun o e => mq_cE (mq_sw c) e i2 m2 cc2 (mq_o32 (mq_ev o m cc)) k) (mq_cZ c env k) (mq_and (mq_and (Nat.beq i 1) (Nat.beq i2 2)) (mq_and (mq_and (Nat.beq m 1) (Nat.beq cc 0)) (mq_and (Nat.beq m2 1) (Nat.beq cc2 0))))) (mq_cs c env 9 1 2 k) (mq_and (mq_and (Nat.beq i 6) (Nat.beq i2 7)) (mq_and (mq_and (Nat.beq m 1) (Nat.beq cc 0)) (mq_and (Nat.beq m2 1) (Nat.beq cc2 0))))
  | _, _ => false
noncomputable def mq_cI1 (wy : mq_W) : Nat → ClassFile.Cond → mq_V → (Bool → mq_V → Bool) → Bool := Sum.rec (motive := fun _ => Nat → ClassFile.Cond → mq_V → (Bool → mq_V → Bool) → Bool) (fun y x c env k => k (mq_cmp c (mq_o32 x) (mq_o32 y)) env) (fun r x c env k => mq_cI2 c (.inl x) (.inr r) env k) wy
noncomputable def mq_cI (c : ClassFile.Cond) (wx wy : mq_W) (env : mq_V) (k : Bool → mq_V → Bool) : Bool := Sum.rec (motive := fun _ => mq_W → ClassFile.Cond → mq_V → (Bool → mq_V → Bool) → Bool) (fun x wy c env k => mq_cI1 wy x c env k) (fun r wy c env k => mq_cI2 c (.inr r) wy env k) wx wy c env k
/-- the long of two symbols against -(10^18 - 1), 0 or 10^18 - 1, by its rank among them -/
noncomputable def mq_cQ (c : ClassFile.Cond) (env : mq_V) (y : Nat) (k : Bool → mq_V → Bool) : Bool := Bool.rec (motive := fun _ => Bool) (Bool.rec (motive := fun _ => Bool) (Bool.rec (motive := fun _ => Bool) false (mq_cs c env 62 1 2 k) (Nat.beq y (nat_lit 17446744073709551617))) (mq_cs c env 62 5 6 k) (Nat.beq y (nat_lit 999999999999999999))) (mq_cs c env 62 3 4 k) (Nat.beq y 0)
noncomputable def mq_cJ (c : ClassFile.Cond) (wx wy : mq_W) (env : mq_V) (k : Bool → mq_V → Bool) : Bool := match wx with
  | (Sum.inr (Sum.inr (Sum.inl x))) => match wy with
    | (Sum.inr (Sum.inr (Sum.inl y))) => k (mq_cmp c (mq_o64 x) (mq_o64 y)) env
    | (Sum.inr (Sum.inr (Sum.inr (Sum.inr (Sum.inl i))))) => mq_cs (mq_sw c) env i (Nat.sub (mq_o64 x) (nat_lit 9223372034707292160)) (Nat.sub (Nat.add (mq_o64 x) (nat_lit 1)) (nat_lit 9223372034707292160)) k
    | (Sum.inr (Sum.inr (Sum.inr (Sum.inr (Sum.inr (Sum.inr (Sum.inr (Sum.inr (some (some (some false))))))))))) => mq_cQ (mq_sw c) env x k
    | _ => false
  | (Sum.inr (Sum.inr (Sum.inr (Sum.inr (Sum.inr (Sum.inr (Sum.inr (Sum.inr (some (some (some false))))))))))) => match wy with
    | (Sum.inr (Sum.inr (Sum.inl y))) => mq_cQ c env y k
    | _ => false
  | (Sum.inr (Sum.inr (Sum.inr (Sum.inr (Sum.inl i))))) => match wy with
    | (Sum.inr (Sum.inr (Sum.inl y))) => mq_cs c env i (Nat.sub (mq_o64 y) (nat_lit 9223372034707292160)) (Nat.sub (Nat.add (mq_o64 y) (nat_lit 1)) (nat_lit 9223372034707292160)) k
    | (Sum.inr (Sum.inr (Sum.inr (Sum.inr (Sum.inl j))))) => mq_fork env i fun o e => mq_cs (mq_sw c) e j o (Nat.add o (nat_lit 1)) k
    | _ => false
  | _ => false
/-- the straight steps without a number of their own bear an instruction's name -/
abbrev mq_O : Type := Sum mq_W (Sum (Nat × Nat) (Sum (Nat × Nat) (Sum Instr (Sum (Nat × Nat) (Sum (Nat × Nat) (Sum Nat (Sum (Nat × Nat × Nat) (Sum Nat (Sum Nat (Nat × List mq_W))))))))))
def mq_oPu (w : mq_W) : mq_O := .inl w
def mq_oLd (kd i : Nat) : mq_O := .inr (.inl (kd, i))
def mq_oSt (kd i : Nat) : mq_O := .inr (.inr (.inl (kd, i)))
def mq_oX (x : Instr) : mq_O := .inr (.inr (.inr (.inl x)))
def mq_oGf (ci f : Nat) : mq_O := .inr (.inr (.inr (.inr (.inl (ci, f)))))
def mq_oIi (i c : Nat) : mq_O := .inr (.inr (.inr (.inr (.inr (.inl (i, c))))))
def mq_oAx (t : Nat) : mq_O := .inr (.inr (.inr (.inr (.inr (.inr (.inl t))))))
def mq_oPf (ci f kd : Nat) : mq_O := .inr (.inr (.inr (.inr (.inr (.inr (.inr (.inl (ci, f, kd))))))))
def mq_oNa (t : Nat) : mq_O := .inr (.inr (.inr (.inr (.inr (.inr (.inr (.inr (.inl t))))))))
def mq_oAn (t : Nat) : mq_O := .inr (.inr (.inr (.inr (.inr (.inr (.inr (.inr (.inr (.inl t)))))))))
def mq_oNw (ci : Nat) (fs : List mq_W) : mq_O := .inr (.inr (.inr (.inr (.inr (.inr (.inr (.inr (.inr (.inr (ci, fs))))))))))
noncomputable def mq_nz32 (y : Nat) : Bool := Nat.ble (nat_lit 1) (Nat.mod y (nat_lit 4294967296))
noncomputable def mq_nz64 (y : Nat) : Bool := Nat.ble (nat_lit 1) (Nat.mod y (nat_lit 18446744073709551616))
noncomputable def mq_x_pu (w : mq_W) : mq_X := fun loc st n t env κ => κ loc (w :: st) n t env
noncomputable def mq_x_ld (kd i : Nat) : mq_X := fun loc st n t env κ => (fun w => (Bool.rec (motive := fun _ => Bool) false (κ loc (w :: st) n t env) (mq_kd kd w))) (mq_nth (Sum.inr (Sum.inr (Sum.inr (Sum.inr (Sum.inr (Sum.inr (Sum.inr (Sum.inr (some none))))))))) loc i)
noncomputable def mq_upk (kd : Nat) : List mq_W → Nat → mq_W → List mq_W := Nat.rec (motive := fun _ => List mq_W → Nat → mq_W → List mq_W) mq_up1 (fun m _ => Nat.rec (motive := fun _ => List mq_W → Nat → mq_W → List mq_W) mq_up2 (fun m _ => Nat.rec (motive := fun _ => List mq_W → Nat → mq_W → List mq_W) mq_up1 (fun _ _ => mq_up2) m) m) kd
noncomputable def mq_x_st (kd i : Nat) : mq_X := fun loc st n t env κ => mq_p1 st fun w s => (Bool.rec (motive := fun _ => Bool) false (κ (mq_upk kd loc i w) s n t env) (mq_kd kd w))
noncomputable def mq_x_ii2 (i c : Nat) (w : mq_W) : mq_X := fun loc st n t env κ => match w with
  | .inr (.inr (.inr (.inl (j, m, cc)))) => κ (mq_up1 loc i (Sum.inr (Sum.inr (Sum.inr (Sum.inl (j, m, (mq_add32 cc c))))))) st n t env
  | _ => false
noncomputable def mq_x_ii (i c : Nat) : mq_X := fun loc st n t env κ => Sum.rec (motive := fun _ => Bool) (fun x => κ (mq_up1 loc i (Sum.inl (mq_add32 x c))) st n t env) (fun r => mq_x_ii2 i c (Sum.inr r) loc st n t env κ) (mq_nth mq_U loc i)
noncomputable def mq_x_b32 (f : Nat → Nat → Nat) : mq_X := fun loc st n t env κ => mq_pI st env fun y s e => mq_pI s e fun x s e => κ loc ((Sum.inl (f x y)) :: s) n t e
noncomputable def mq_x_iadd2 (wx wy : mq_W) : mq_X := fun loc s n t env κ => match wx, wy with
  | .inl x, .inr (.inr (.inr (.inl (i, m, c)))) => κ loc (Sum.inr (Sum.inr (Sum.inr (Sum.inl (i, m, (mq_add32 c x))))) :: s) n t env
  | .inr (.inr (.inr (.inl (i, m, c)))), .inl y => κ loc (Sum.inr (Sum.inr (Sum.inr (Sum.inl (i, m, (mq_add32 c y))))) :: s) n t env
  | .inr (.inr (.inr (.inl (i, m, c)))), .inr (.inr (.inr (.inl (i2, m2, c2)))) => mq_fork env i fun o e => κ loc (Sum.inr (Sum.inr (Sum.inr (Sum.inl (i2, m2, (mq_add32 c2 (mq_ev o m c)))))) :: s) n t e
  | _, _ => false
noncomputable def mq_y_iadd (wy : mq_W) : Nat → List mq_W → List mq_W → Nat → mq_Ht → mq_V → mq_Kt → Bool := Sum.rec (motive := fun _ => Nat → List mq_W → List mq_W → Nat → mq_Ht → mq_V → mq_Kt → Bool) (fun y x loc s n t env κ => κ loc (Sum.inl (mq_add32 x y) :: s) n t env) (fun r x loc s n t env κ => mq_x_iadd2 (Sum.inl x) (Sum.inr r) loc s n t env κ) wy
noncomputable def mq_x_iadd : mq_X := fun loc st n t env κ => mq_p1 st fun wy s => mq_p1 s fun wx s => Sum.rec (motive := fun _ => mq_W → List mq_W → List mq_W → Nat → mq_Ht → mq_V → mq_Kt → Bool) (fun x wy => mq_y_iadd wy x) (fun r wy => mq_x_iadd2 (Sum.inr r) wy) wx wy loc s n t env κ
noncomputable def mq_x_imul2 (wx wy : mq_W) : mq_X := fun loc s n t env κ => match wx, wy with
  | .inl x, .inr (.inr (.inr (.inl (i, m, c)))) => κ loc (Sum.inr (Sum.inr (Sum.inr (Sum.inl (i, (mq_mul32 m x), (mq_mul32 c x))))) :: s) n t env
  | .inr (.inr (.inr (.inl (i, m, c)))), .inl y => κ loc (Sum.inr (Sum.inr (Sum.inr (Sum.inl (i, (mq_mul32 m y), (mq_mul32 c y))))) :: s) n t env
  | .inr (.inr (.inr (.inl (i, m, c)))), .inr (.inr (.inr (.inl (i2, m2, c2)))) => Bool.rec (motive := fun _ => Bool) false (Bool.rec (motive := fun _ => Bool) (Bool.rec (motive := fun _ => Bool) (Bool.rec (motive := fun _ => Bool) false (κ loc (Sum.inr (Sum.inr (Sum.inr (Sum.inl (8, 1, 0)))) :: s) n t env) (mq_and (Nat.beq i 3) (Nat.beq i2 5))) (κ loc (Sum.inr (Sum.inr (Sum.inr (Sum.inl (7, 1, 0)))) :: s) n t env) (mq_and (Nat.beq i 4) (Nat.beq i2 3))) (κ loc (Sum.inr (Sum.inr (Sum.inr (Sum.inl (6, 1, 0)))) :: s) n t env) (mq_and (Nat.beq i 2) (Nat.beq i2 5))) (mq_and (mq_and (Nat.beq m 1) (Nat.beq c 0)) (mq_and (Nat.beq m2 1) (Nat.beq c2 0)))
  | _, _ => false
noncomputable def mq_y_imul (wy : mq_W) : Nat → List mq_W → List mq_W → Nat → mq_Ht → mq_V → mq_Kt → Bool := Sum.rec (motive := fun _ => Nat → List mq_W → List mq_W → Nat → mq_Ht → mq_V → mq_Kt → Bool) (fun y x loc s n t env κ => κ loc (Sum.inl (mq_mul32 x y) :: s) n t env) (fun r x loc s n t env κ => mq_x_imul2 (Sum.inl x) (Sum.inr r) loc s n t env κ) wy
noncomputable def mq_x_imul : mq_X := fun loc st n t env κ => mq_p1 st fun wy s => mq_p1 s fun wx s => Sum.rec (motive := fun _ => mq_W → List mq_W → List mq_W → Nat → mq_Ht → mq_V → mq_Kt → Bool) (fun x wy => mq_y_imul wy x) (fun r wy => mq_x_imul2 (Sum.inr r) wy) wx wy loc s n t env κ
noncomputable def mq_x_d32 (f : Nat → Nat → Nat) : mq_X := fun loc st n t env κ => mq_pI st env fun y s e => (Bool.rec (motive := fun _ => Bool) false (mq_pI s e fun x s e => κ loc ((Sum.inl (f x y)) :: s) n t e) (mq_nz32 y))
noncomputable def mq_x_u32 (f : Nat → Nat) : mq_X := fun loc st n t env κ => mq_pI st env fun x s e => κ loc ((Sum.inl (f x)) :: s) n t e
noncomputable def mq_and32 (x y : Nat) : Nat := Nat.land x y
noncomputable def mq_i2b (x : Nat) : Nat := cond (Nat.ble (nat_lit 128) (Nat.mod x (nat_lit 256))) (Nat.add (Nat.mod x (nat_lit 256)) (nat_lit 4294967040)) (Nat.mod x (nat_lit 256))
noncomputable def mq_x_iand : mq_X := fun loc st n t env κ => mq_pI st env fun y s e => mq_p1 s fun wx s => match wx with
  | (Sum.inl x) => κ loc ((Sum.inl (mq_and32 x y)) :: s) n t e
  | (Sum.inr (Sum.inr (Sum.inr (Sum.inl (i, m, c))))) => (match mq_bd e 63 with
    | (lo, hi) => (Bool.rec (motive := fun _ => Bool) false (κ loc ((Sum.inl lo) :: s) n t e) (mq_and (mq_and (Nat.beq i 0) (mq_and (Nat.beq m 1) (Nat.beq c 0))) (mq_and (Nat.beq y (nat_lit 63)) (Nat.beq lo hi)))))
  | _ => false
noncomputable def mq_x_b64 (f : Nat → Nat → Nat) : mq_X := fun loc st n t env κ => mq_pJ st env fun y s e => mq_pJ s e fun x s e => κ loc ((Sum.inr (Sum.inr (Sum.inl (f x y)))) :: s) n t e
noncomputable def mq_x_d64 (f : Nat → Nat → Nat) : mq_X := fun loc st n t env κ => mq_pJ st env fun y s e => (Bool.rec (motive := fun _ => Bool) false (mq_pJ s e fun x s e => κ loc ((Sum.inr (Sum.inr (Sum.inl (f x y)))) :: s) n t e) (mq_nz64 y))
noncomputable def mq_x_lneg : mq_X := fun loc st n t env κ => mq_pJ st env fun x s e => κ loc ((Sum.inr (Sum.inr (Sum.inl (mq_neg64 x)))) :: s) n t e
noncomputable def mq_shl (x y : Nat) : Nat := Nat.mod (Nat.mul x (Nat.pow (nat_lit 2) y)) (nat_lit 18446744073709551616)
noncomputable def mq_x_lshl : mq_X := fun loc st n t env κ => mq_pI st env fun y s e => mq_p1 s fun w s => match w with
  | (Sum.inr (Sum.inr (Sum.inr (Sum.inr (Sum.inl i))))) => (Bool.rec (motive := fun _ => Bool) false (κ loc ((Sum.inr (Sum.inr (Sum.inr (Sum.inr (Sum.inr (Sum.inr (Sum.inr (Sum.inr (some (some none)))))))))) :: s) n t e) (mq_and (Nat.beq i 3) (Nat.beq y (nat_lit 32))))
  | w => (Bool.rec (motive := fun _ => Bool) false (mq_vJ w e fun x e => κ loc ((Sum.inr (Sum.inr (Sum.inl (mq_shl x y)))) :: s) n t e) (Nat.ble y (nat_lit 63)))
noncomputable def mq_x_land : mq_X := fun loc st n t env κ => mq_p1 st fun wy s => mq_p1 s fun wx s => match wx, wy with
  | (Sum.inr (Sum.inr (Sum.inr (Sum.inr (Sum.inl i))))), (Sum.inr (Sum.inr (Sum.inl y))) => (Bool.rec (motive := fun _ => Bool) false (κ loc ((Sum.inr (Sum.inr (Sum.inr (Sum.inr (Sum.inr (Sum.inr (Sum.inr (Sum.inr (some (some (some true))))))))))) :: s) n t env) (mq_and (Nat.beq i 4) (Nat.beq y (nat_lit 4294967295))))
  | _, _ => false
noncomputable def mq_x_lor : mq_X := fun loc st n t env κ => mq_p1 st fun wy s => mq_p1 s fun wx s => match wx, wy with
  | (Sum.inr (Sum.inr (Sum.inr (Sum.inr (Sum.inr (Sum.inr (Sum.inr (Sum.inr (some (some none)))))))))), (Sum.inr (Sum.inr (Sum.inr (Sum.inr (Sum.inr (Sum.inr (Sum.inr (Sum.inr (some (some (some true))))))))))) => κ loc ((Sum.inr (Sum.inr (Sum.inr (Sum.inr (Sum.inr (Sum.inr (Sum.inr (Sum.inr (some (some (some false))))))))))) :: s) n t env
  | _, _ => false
noncomputable def mq_x_i2l : mq_X := fun loc st n t env κ => mq_p1 st fun w s => match w with
  | (Sum.inl x) => κ loc ((Sum.inr (Sum.inr (Sum.inl (mq_i2l x)))) :: s) n t env
  | (Sum.inr (Sum.inr (Sum.inr (Sum.inl (i, m, c))))) => cond (mq_and (Nat.beq m 1) (Nat.beq c 0)) (κ loc ((Sum.inr (Sum.inr (Sum.inr (Sum.inr (Sum.inl i))))) :: s) n t env) (mq_fork env i fun o e => κ loc ((Sum.inr (Sum.inr (Sum.inl (mq_i2l (mq_ev o m c))))) :: s) n t e)
  | _ => false
noncomputable def mq_x_l2i : mq_X := fun loc st n t env κ => mq_p1 st fun w s => match w with
  | (Sum.inr (Sum.inr (Sum.inl x))) => κ loc ((Sum.inl (Nat.mod x (nat_lit 4294967296))) :: s) n t env
  | (Sum.inr (Sum.inr (Sum.inr (Sum.inr (Sum.inl i))))) => κ loc ((Sum.inr (Sum.inr (Sum.inr (Sum.inl (i, 1, 0))))) :: s) n t env
  | _ => false
noncomputable def mq_x_dup : mq_X := fun loc st n t env κ => mq_p1 st fun w s => (Bool.rec (motive := fun _ => Bool) false (κ loc (w :: w :: s) n t env) (or (mq_kd 0 w) (mq_kd 2 w)))
noncomputable def mq_x_dup2 : mq_X := fun loc st n t env κ => mq_p1 st fun w s => mq_p1 s fun v s => (Bool.rec (motive := fun _ => Bool) false (κ loc (w :: v :: w :: v :: s) n t env) (mq_and (mq_kd 0 w) (mq_kd 2 v)))
noncomputable def mq_x_pop : mq_X := fun loc st n t env κ => mq_p1 st fun w s => (Bool.rec (motive := fun _ => Bool) false (κ loc s n t env) (or (mq_kd 0 w) (mq_kd 2 w)))
noncomputable def mq_x_pop2 : mq_X := fun loc st n t env κ => mq_p1 st fun w s => (Bool.rec (motive := fun _ => Bool) false (κ loc s n t env) (or (mq_kd 1 w) (mq_kd 3 w)))
noncomputable def mq_x_i2d : mq_X := fun loc st n t env κ => mq_pI st env fun x s e => κ loc ((Sum.inr (Sum.inr (Sum.inr (Sum.inr (Sum.inr (Sum.inr (Sum.inl (FP.i2d (jn x))))))))) :: s) n t e
noncomputable def mq_x_i2f : mq_X := fun loc st n t env κ => mq_pI st env fun x s e => κ loc ((Sum.inr (Sum.inr (Sum.inr (Sum.inr (Sum.inr (Sum.inr (Sum.inr (Sum.inl (FP.i2f (jn x)))))))))) :: s) n t e
noncomputable def mq_pD (st : List mq_W) (k : UInt64 → List mq_W → Bool) : Bool := match st with
  | (Sum.inr (Sum.inr (Sum.inr (Sum.inr (Sum.inr (Sum.inr (Sum.inl x))))))) :: s => k x s
  | _ => false
noncomputable def mq_pF (st : List mq_W) (k : UInt32 → List mq_W → Bool) : Bool := match st with
  | (Sum.inr (Sum.inr (Sum.inr (Sum.inr (Sum.inr (Sum.inr (Sum.inr (Sum.inl x)))))))) :: s => k x s
  | _ => false
noncomputable def mq_x_ddiv : mq_X := fun loc st n t env κ => mq_pD st fun y s => mq_pD s fun x s => (Bool.rec (motive := fun _ => Bool) false (κ loc ((Sum.inr (Sum.inr (Sum.inr (Sum.inr (Sum.inr (Sum.inr (Sum.inl (FP.ddiv x y)))))))) :: s) n t env) (decide (FP.ddiv x y &&& 0x7fffffffffffffff ≤ 0x7ff0000000000000)))
noncomputable def mq_x_fdiv : mq_X := fun loc st n t env κ => mq_pF st fun y s => mq_pF s fun x s => (Bool.rec (motive := fun _ => Bool) false (κ loc ((Sum.inr (Sum.inr (Sum.inr (Sum.inr (Sum.inr (Sum.inr (Sum.inr (Sum.inl (FP.fdiv x y))))))))) :: s) n t env) (decide (FP.fdiv x y &&& 0x7fffffff ≤ 0x7f800000)))
noncomputable def mq_x_f2d : mq_X := fun loc st n t env κ => mq_pF st fun x s => (Bool.rec (motive := fun _ => Bool) false (κ loc ((Sum.inr (Sum.inr (Sum.inr (Sum.inr (Sum.inr (Sum.inr (Sum.inl (FP.f2d x)))))))) :: s) n t env) (decide (FP.f2d x &&& 0x7fffffffffffffff ≤ 0x7ff0000000000000)))
noncomputable def mq_x_dc (op : CmpOp) : mq_X := fun loc st n t env κ => mq_pD st fun y s => mq_pD s fun x s => κ loc (Sum.inl ((Op.cmpValue (FP.dcmp x y) op).toBitVec.toNat) :: s) n t env
noncomputable def mq_cA2 (c : mq_C) : (Nat → Nat → Nat → mq_T mq_W → Bool) → Bool := Option.rec (motive := fun _ => (Nat → Nat → Nat → mq_T mq_W → Bool) → Bool) (fun _ => false) (fun c => Sum.rec (motive := fun _ => (Nat → Nat → Nat → mq_T mq_W → Bool) → Bool) (fun q => Prod.rec (motive := fun _ => (Nat → Nat → Nat → mq_T mq_W → Bool) → Bool) (fun ty q => Prod.rec (motive := fun _ => (Nat → Nat → Nat → mq_T mq_W → Bool) → Bool) (fun len q => Prod.rec (motive := fun _ => (Nat → Nat → Nat → mq_T mq_W → Bool) → Bool) (fun dep d k => k ty len dep d) q) q) q) (fun _ _ => false) c) c
noncomputable def mq_cA (t : mq_Ht) (a : Nat) (k : Nat → Nat → Nat → mq_T mq_W → Bool) : Bool := (Bool.rec (motive := fun _ => Bool) false (mq_cA2 (mq_hg t a) k) (Nat.ble a (nat_lit 1023)))
noncomputable def mq_cO2 (c : mq_C) : (Nat → List mq_W → Bool) → Bool := Option.rec (motive := fun _ => (Nat → List mq_W → Bool) → Bool) (fun _ => false) (fun c => Sum.rec (motive := fun _ => (Nat → List mq_W → Bool) → Bool) (fun _ _ => false) (fun c => Sum.rec (motive := fun _ => (Nat → List mq_W → Bool) → Bool) (fun q => Prod.rec (motive := fun _ => (Nat → List mq_W → Bool) → Bool) (fun ci fs k => k ci fs) q) (fun _ _ => false) c) c) c
noncomputable def mq_cO (t : mq_Ht) (a : Nat) (k : Nat → List mq_W → Bool) : Bool := (Bool.rec (motive := fun _ => Bool) false (mq_cO2 (mq_hg t a) k) (Nat.ble a (nat_lit 1023)))
/-- a number of the class at a place: its limbs' place, how many, the number -/
noncomputable def mq_cW2 (c : mq_C) : (Nat → Nat → mq_N → Bool) → Bool := Option.rec (motive := fun _ => (Nat → Nat → mq_N → Bool) → Bool) (fun _ => false) (fun c => Sum.rec (motive := fun _ => (Nat → Nat → mq_N → Bool) → Bool) (fun _ _ => false) (fun c => Sum.rec (motive := fun _ => (Nat → Nat → mq_N → Bool) → Bool) (fun _ _ => false) (fun c => Sum.rec (motive := fun _ => (Nat → Nat → mq_N → Bool) → Bool) (fun q => Prod.rec (motive := fun _ => (Nat → Nat → mq_N → Bool) → Bool) (fun b q => Prod.rec (motive := fun _ => (Nat → Nat → mq_N → Bool) → Bool) (fun len v k => k b len v) q) q) (fun _ _ => false) c) c) c) c
noncomputable def mq_cV (t : mq_Ht) (a : Nat) (k : Nat → Nat → mq_N → Bool) : Bool := (Bool.rec (motive := fun _ => Bool) false (mq_cW2 (mq_hg t a) k) (Nat.ble a (nat_lit 1023)))
/-- a divisor: its limbs' place, how many, what it was prepared for -/
noncomputable def mq_cD2 (c : mq_C) : (Nat → Nat → mq_N → Bool) → Bool := Option.rec (motive := fun _ => (Nat → Nat → mq_N → Bool) → Bool) (fun _ => false) (fun c => Sum.rec (motive := fun _ => (Nat → Nat → mq_N → Bool) → Bool) (fun _ _ => false) (fun c => Sum.rec (motive := fun _ => (Nat → Nat → mq_N → Bool) → Bool) (fun _ _ => false) (fun c => Sum.rec (motive := fun _ => (Nat → Nat → mq_N → Bool) → Bool) (fun _ _ => false) (fun c => Sum.rec (motive := fun _ => (Nat → Nat → mq_N → Bool) → Bool) (fun q => Prod.rec (motive := fun _ => (Nat → Nat → mq_N → Bool) → Bool) (fun b q => Prod.rec (motive := fun _ => (Nat → Nat → mq_N → Bool) → Bool) (fun len v k => k b len v) q) q) (fun _ _ => false) c) c) c) c) c
noncomputable def mq_cD (t : mq_Ht) (a : Nat) (k : Nat → Nat → mq_N → Bool) : Bool := (Bool.rec (motive := fun _ => Bool) false (mq_cD2 (mq_hg t a) k) (Nat.ble a (nat_lit 1023)))
/-- the reference's great row of numbers -/
noncomputable def mq_cS2 (c : mq_C) : (mq_T mq_N → Bool) → Bool := Option.rec (motive := fun _ => (mq_T mq_N → Bool) → Bool) (fun _ => false) (fun c => Sum.rec (motive := fun _ => (mq_T mq_N → Bool) → Bool) (fun _ _ => false) (fun c => Sum.rec (motive := fun _ => (mq_T mq_N → Bool) → Bool) (fun _ _ => false) (fun c => Sum.rec (motive := fun _ => (mq_T mq_N → Bool) → Bool) (fun _ _ => false) (fun c => Sum.rec (motive := fun _ => (mq_T mq_N → Bool) → Bool) (fun _ _ => false) (fun c => Sum.rec (motive := fun _ => (mq_T mq_N → Bool) → Bool) (fun _ _ => false) (fun d k => k d) c) c) c) c) c) c
noncomputable def mq_cS (t : mq_Ht) (a : Nat) (k : mq_T mq_N → Bool) : Bool := (Bool.rec (motive := fun _ => Bool) false (mq_cS2 (mq_hg t a) k) (Nat.ble a (nat_lit 1023)))
/-- the class of an object -/
noncomputable def mq_cC2 (c : mq_C) : (Nat → Bool) → Bool := Option.rec (motive := fun _ => (Nat → Bool) → Bool) (fun _ => false) (fun c => Sum.rec (motive := fun _ => (Nat → Bool) → Bool) (fun _ _ => false) (fun c => Sum.rec (motive := fun _ => (Nat → Bool) → Bool) (fun q => Prod.rec (motive := fun _ => (Nat → Bool) → Bool) (fun ci _ k => k ci) q) (fun c => Sum.rec (motive := fun _ => (Nat → Bool) → Bool) (fun _ k => k (nat_lit 8)) (fun c => Sum.rec (motive := fun _ => (Nat → Bool) → Bool) (fun _ k => k (nat_lit 2)) (fun _ _ => false) c) c) c) c) c
noncomputable def mq_cC (t : mq_Ht) (a : Nat) (k : Nat → Bool) : Bool := (Bool.rec (motive := fun _ => Bool) false (mq_cC2 (mq_hg t a) k) (Nat.ble a (nat_lit 1023)))
/-- numbers p - n -/
noncomputable def mq_nZ (v : mq_N) (k : Nat → Nat → Bool) : Bool := Sum.rec (motive := fun _ => (Nat → Nat → Bool) → Bool) (fun q => Prod.rec (motive := fun _ => (Nat → Nat → Bool) → Bool) (fun p n k => k p n) q) (fun _ _ => false) v k
noncomputable def mq_mk (p n : Nat) : mq_N := Sum.inl (Nat.sub p n, Nat.sub n p)
/-- sums of products of symbols -/
noncomputable def mq_meq (a b : mq_Mn) : Bool := mq_and (Nat.beq a.1 b.1) (mq_and (Nat.beq a.2.1 b.2.1) (mq_and (Nat.beq a.2.2.1 b.2.2.1) (Nat.beq a.2.2.2 b.2.2.2)))
noncomputable def mq_cmb (t x : mq_Mn × Nat × Nat) (xs : mq_Pl) : mq_Pl := Bool.rec (motive := fun _ => mq_Pl) ((t.1, Nat.sub (Nat.add t.2.1 x.2.1) (Nat.add t.2.2 x.2.2), Nat.sub (Nat.add t.2.2 x.2.2) (Nat.add t.2.1 x.2.1)) :: xs) xs (Nat.beq (Nat.add t.2.1 x.2.1) (Nat.add t.2.2 x.2.2))
noncomputable def mq_pa1 (t : mq_Mn × Nat × Nat) (l : mq_Pl) : mq_Pl := List.rec (motive := fun _ => mq_Pl) [t] (fun x xs ih => Bool.rec (motive := fun _ => mq_Pl) (x :: ih) (mq_cmb t x xs) (mq_meq t.1 x.1)) l
noncomputable def mq_pad (l1 l2 : mq_Pl) : mq_Pl := List.rec (motive := fun _ => mq_Pl) l2 (fun t _ ih => mq_pa1 t ih) l1
noncomputable def mq_psc (p n : Nat) (l : mq_Pl) : mq_Pl := List.rec (motive := fun _ => mq_Pl) [] (fun x _ ih => (x.1, Nat.add (Nat.mul p x.2.1) (Nat.mul n x.2.2), Nat.add (Nat.mul p x.2.2) (Nat.mul n x.2.1)) :: ih) l
noncomputable def mq_madd (a b : mq_Mn) : mq_Mn := (Nat.add a.1 b.1, Nat.add a.2.1 b.2.1, Nat.add a.2.2.1 b.2.2.1, Nat.add a.2.2.2 b.2.2.2)
noncomputable def mq_pm1 (t : mq_Mn × Nat × Nat) (l : mq_Pl) : mq_Pl := List.rec (motive := fun _ => mq_Pl) [] (fun x _ ih => (mq_madd t.1 x.1, Nat.add (Nat.mul t.2.1 x.2.1) (Nat.mul t.2.2 x.2.2), Nat.add (Nat.mul t.2.1 x.2.2) (Nat.mul t.2.2 x.2.1)) :: ih) l
noncomputable def mq_pmu (l1 l2 : mq_Pl) : mq_Pl := List.rec (motive := fun _ => mq_Pl) [] (fun t _ ih => mq_pad (mq_pm1 t l2) ih) l1
noncomputable def mq_m0 (m : mq_Mn) : Bool := Nat.beq (Nat.add (Nat.add m.1 m.2.1) (Nat.add m.2.2.1 m.2.2.2)) 0
noncomputable def mq_tol (v : mq_N) : mq_Pl := Sum.rec (motive := fun _ => mq_Pl) (fun q => Bool.rec (motive := fun _ => mq_Pl) [((0, 0, 0, 0), q.1, q.2)] [] (Nat.beq (Nat.add q.1 q.2) 0)) (fun l => l) v
noncomputable def mq_frl (l : mq_Pl) : mq_N := List.rec (motive := fun _ => mq_N) (Sum.inl (0, 0)) (fun t xs _ => List.rec (motive := fun _ => mq_N) (Bool.rec (motive := fun _ => mq_N) (Sum.inr [t]) (mq_mk t.2.1 t.2.2) (mq_m0 t.1)) (fun y ys _ => Sum.inr (t :: y :: ys)) xs) l
noncomputable def mq_add (u v : mq_N) (k : mq_N → Bool) : Bool := Sum.rec (motive := fun _ => Bool) (fun q => Sum.rec (motive := fun _ => Bool) (fun r => k (mq_mk (Nat.add q.1 r.1) (Nat.add q.2 r.2))) (fun l => k (mq_frl (mq_pad (mq_tol (Sum.inl q)) l))) v) (fun l => k (mq_frl (mq_pad l (mq_tol v)))) u
noncomputable def mq_neg (u : mq_N) (k : mq_N → Bool) : Bool := Sum.rec (motive := fun _ => Bool) (fun q => k (Sum.inl (q.2, q.1))) (fun l => k (Sum.inr (mq_psc 0 (nat_lit 1) l))) u
noncomputable def mq_mul (u v : mq_N) (k : mq_N → Bool) : Bool := Sum.rec (motive := fun _ => Bool) (fun q => Sum.rec (motive := fun _ => Bool) (fun r => k (mq_mk (Nat.add (Nat.mul q.1 r.1) (Nat.mul q.2 r.2)) (Nat.add (Nat.mul q.1 r.2) (Nat.mul q.2 r.1)))) (fun l => k (mq_frl (mq_pmu (mq_tol (Sum.inl q)) l))) v) (fun l => k (mq_frl (mq_pmu l (mq_tol v)))) u
/-- the sign as an int -/
noncomputable def mq_sg (p n : Nat) : Nat := Bool.rec (motive := fun _ => Nat) (Bool.rec (motive := fun _ => Nat) 0 (nat_lit 4294967295) (Nat.ble (nat_lit 1) n)) (nat_lit 1) (Nat.ble (nat_lit 1) p)
/-- signs as 0, 1, 2 -/
noncomputable def mq_smu (a b : Nat) : Nat := Nat.sub (Nat.add (Nat.mul a b) (nat_lit 2)) (Nat.add a b)
noncomputable def mq_s2i (s : Nat) : Nat := Bool.rec (motive := fun _ => Nat) (Bool.rec (motive := fun _ => Nat) (nat_lit 4294967295) 0 (Nat.beq s (nat_lit 1))) (nat_lit 1) (Nat.beq s (nat_lit 2))
noncomputable def mq_scd (p n : Nat) : Nat := Bool.rec (motive := fun _ => Nat) (Bool.rec (motive := fun _ => Nat) (nat_lit 1) 0 (Nat.ble (Nat.add p (nat_lit 1)) n)) (nat_lit 2) (Nat.ble (Nat.add n (nat_lit 1)) p)
/-- the symbols that are signs of sums of products -/
def mq_tabl : List (Nat × mq_Pl) := [(12, [((1, 0, 0, 0), 1, 0)]), (13, [((0, 0, 1, 0), 1, 0)]),
  (14, [((2, 0, 0, 0), 1, 0), ((0, 2, 0, 0), 0, 2)]), (15, [((2, 0, 0, 0), 1, 0), ((0, 2, 0, 0), 0, 1)]), (16, [((2, 0, 0, 0), 3, 0), ((0, 2, 0, 0), 0, 1)]), (17, [((2, 0, 0, 0), 6, 0), ((1, 1, 0, 0), 0, 5), ((0, 2, 0, 0), 1, 0)]), (18, [((1, 0, 0, 0), 12, 0), ((0, 1, 0, 0), 0, 5)]),
  (19, [((0, 0, 2, 0), 1, 0), ((0, 0, 0, 2), 0, 2)]), (20, [((0, 0, 2, 0), 1, 0), ((0, 0, 0, 2), 0, 1)]), (21, [((0, 0, 2, 0), 3, 0), ((0, 0, 0, 2), 0, 1)]), (22, [((0, 0, 2, 0), 6, 0), ((0, 0, 1, 1), 0, 5), ((0, 0, 0, 2), 1, 0)]), (23, [((0, 0, 1, 0), 12, 0), ((0, 0, 0, 1), 0, 5)])]
noncomputable def mq_pco (m : mq_Mn) (l : mq_Pl) : Nat × Nat := List.rec (motive := fun _ => Nat × Nat) (0, 0) (fun x _ ih => Bool.rec (motive := fun _ => Nat × Nat) ih x.2 (mq_meq m x.1)) l
noncomputable def mq_nil (l : mq_Pl) : Bool := List.rec (motive := fun _ => Bool) true (fun _ _ _ => false) l
/-- l is q but for the factors c and d -/
noncomputable def mq_like (pd nd pc nc : Nat) (l q : mq_Pl) : Bool := mq_and (Bool.rec (motive := fun _ => Bool) true false (Nat.beq pd nd)) (mq_nil (mq_pad (mq_psc pd nd l) (mq_psc nc pc q)))
noncomputable def mq_tlk (tab : List (Nat × mq_Pl)) (t : mq_Mn × Nat × Nat) (l : mq_Pl) (env : mq_V) (k : Nat → mq_V → Bool) : Bool := List.rec (motive := fun _ => Bool) false (fun e _ ih => Bool.rec (motive := fun _ => Bool) ih (mq_fork env e.1 fun s en => k (mq_smu s (mq_smu (mq_scd (mq_pco t.1 e.2).1 (mq_pco t.1 e.2).2) (mq_scd t.2.1 t.2.2))) en) (mq_like (mq_pco t.1 e.2).1 (mq_pco t.1 e.2).2 t.2.1 t.2.2 l e.2)) tab
noncomputable def mq_lsg (l : mq_Pl) (env : mq_V) (k : Nat → mq_V → Bool) : Bool := List.rec (motive := fun _ => Bool) (k (nat_lit 1) env) (fun t xs _ => List.rec (motive := fun _ => Bool) (Bool.rec (motive := fun _ => Bool) (mq_tlk mq_tabl t (t :: xs) env k) (k (mq_scd t.2.1 t.2.2) env) (mq_m0 t.1)) (fun _ _ _ => mq_tlk mq_tabl t (t :: xs) env k) xs) l
noncomputable def mq_min2 (a b : Nat) : Nat := Bool.rec (motive := fun _ => Nat) b a (Nat.ble a b)
noncomputable def mq_mmin (a b : mq_Mn) : mq_Mn := (mq_min2 a.1 b.1, mq_min2 a.2.1 b.2.1, mq_min2 a.2.2.1 b.2.2.1, mq_min2 a.2.2.2 b.2.2.2)
noncomputable def mq_pgc (g : mq_Mn) (l : mq_Pl) : mq_Mn := List.rec (motive := fun _ => mq_Mn) g (fun x _ ih => mq_mmin x.1 ih) l
noncomputable def mq_pdv (g : mq_Mn) (l : mq_Pl) : mq_Pl := List.rec (motive := fun _ => mq_Pl) [] (fun x _ ih => ((Nat.sub x.1.1 g.1, Nat.sub x.1.2.1 g.2.1, Nat.sub x.1.2.2.1 g.2.2.1, Nat.sub x.1.2.2.2 g.2.2.2), x.2) :: ih) l
noncomputable def mq_vsg (env : mq_V) (i e : Nat) (k : Nat → mq_V → Bool) : Bool := Bool.rec (motive := fun _ => Bool) (mq_fork env i fun s en => k (Bool.rec (motive := fun _ => Nat) s (mq_smu s s) (Nat.beq (Nat.mod e (nat_lit 2)) 0)) en) (k (nat_lit 2) env) (Nat.beq e 0)
noncomputable def mq_pos (env : mq_V) (i e : Nat) : Bool := or (Nat.beq e 0) (Nat.ble (nat_lit 2147483649) (mq_bd env i).1)
noncomputable def mq_psg (l : mq_Pl) (env : mq_V) (k : Nat → mq_V → Bool) : Bool := List.rec (motive := fun _ => Bool) false (fun t xs _ => (fun g => Bool.rec (motive := fun _ => Bool) false (mq_vsg env (nat_lit 12) g.1 fun s1 e => mq_vsg e (nat_lit 13) g.2.2.1 fun s2 e => mq_lsg (mq_pdv g (t :: xs)) e fun s e => k (mq_s2i (mq_smu (mq_smu s1 s2) s)) e) (mq_and (mq_pos env (nat_lit 3) g.2.1) (mq_pos env (nat_lit 5) g.2.2.2))) (mq_pgc t.1 xs)) l
noncomputable def mq_sgn (v : mq_N) (env : mq_V) (k : Nat → mq_V → Bool) : Bool := Sum.rec (motive := fun _ => Bool) (fun q => k (mq_sg q.1 q.2) env) (fun l => mq_psg l env k) v
/-- its limbs are at most so many -/
noncomputable def mq_pbd (l : mq_Pl) : Nat := List.rec (motive := fun _ => Nat) 0 (fun x _ ih => Nat.add (Nat.mul (Nat.add x.2.1 x.2.2) (Nat.pow (nat_lit 2147483648) (Nat.add (Nat.add x.1.1 x.1.2.1) (Nat.add x.1.2.2.1 x.1.2.2.2)))) ih) l
noncomputable def mq_fit (v : mq_N) (len : Nat) : Bool := Sum.rec (motive := fun _ => Bool) (fun q => Nat.ble (Nat.add (Nat.add q.1 q.2) (nat_lit 1)) (Nat.pow (nat_lit 1000000000) len)) (fun l => Nat.ble (Nat.add (mq_pbd l) (nat_lit 1)) (Nat.pow (nat_lit 1000000000) len)) v
/-- a symbol as a number; a long as a number -/
noncomputable def mq_syN (env : mq_V) (i : Nat) : mq_N := Bool.rec (motive := fun _ => mq_N) (Sum.inr [(Bool.rec (motive := fun _ => mq_Mn) (Bool.rec (motive := fun _ => mq_Mn) (Bool.rec (motive := fun _ => mq_Mn) (0, 0, 0, 1) (0, 0, 1, 0) (Nat.beq i (nat_lit 4))) (0, 1, 0, 0) (Nat.beq i (nat_lit 3))) (1, 0, 0, 0) (Nat.beq i (nat_lit 2)), 1, 0)]) (mq_mk (mq_bd env i).1 (nat_lit 2147483648)) (Nat.beq (mq_bd env i).1 (mq_bd env i).2)
noncomputable def mq_sml (env : mq_V) (i : Nat) : Bool := mq_and (Nat.ble (nat_lit 2147450880) (mq_bd env i).1) (Nat.ble (mq_bd env i).2 (nat_lit 2147516416))
noncomputable def mq_pr2 (env : mq_V) (i j : Nat) (k : mq_N → Bool) : Bool := Bool.rec (motive := fun _ => Bool) false (mq_mul (mq_syN env i) (mq_syN env j) k) (mq_and (mq_sml env i) (mq_sml env j))
noncomputable def mq_vNs (i : Nat) (env : mq_V) (k : mq_N → mq_V → Bool) : Bool := Bool.rec (motive := fun _ => Bool)
  (Bool.rec (motive := fun _ => Bool) (Bool.rec (motive := fun _ => Bool) (Bool.rec (motive := fun _ => Bool) false (mq_pr2 env (nat_lit 3) (nat_lit 5) fun v => k v env) (Nat.beq i (nat_lit 8))) (mq_pr2 env (nat_lit 4) (nat_lit 3) fun v => k v env) (Nat.beq i (nat_lit 7))) (mq_pr2 env (nat_lit 2) (nat_lit 5) fun v => k v env) (Nat.beq i (nat_lit 6)))
  (k (mq_syN env i) env) (mq_and (Nat.ble (nat_lit 2) i) (Nat.ble i (nat_lit 5)))
/-- how many limbs -/
noncomputable def mq_nl (x : Nat) : Nat := Nat.rec (motive := fun _ => Nat → Nat) (fun _ => 0) (fun _ ih x => Bool.rec (motive := fun _ => Nat) 0 (Nat.add (ih (Nat.div x (nat_lit 1000000000))) (nat_lit 1)) (Nat.ble (nat_lit 1) x)) (nat_lit 700) x
noncomputable def mq_long (x : Nat) : mq_N := Bool.rec (motive := fun _ => mq_N) (Sum.inl (Nat.mod x (nat_lit 18446744073709551616), 0)) (Sum.inl (0, Nat.sub (nat_lit 18446744073709551616) (Nat.mod x (nat_lit 18446744073709551616)))) (Nat.ble (nat_lit 9223372036854775808) (Nat.mod x (nat_lit 18446744073709551616)))
noncomputable def mq_vN3 (r : mq_W3) : mq_V → (mq_N → mq_V → Bool) → Bool := Sum.rec (motive := fun _ => mq_V → (mq_N → mq_V → Bool) → Bool) (fun _ _ _ => false) (fun r => Sum.rec (motive := fun _ => mq_V → (mq_N → mq_V → Bool) → Bool) (fun i env k => mq_vNs i env k) (fun _ _ _ => false) r) r
noncomputable def mq_vN (w : mq_W) (env : mq_V) (k : mq_N → mq_V → Bool) : Bool := Sum.rec (motive := fun _ => mq_V → (mq_N → mq_V → Bool) → Bool) (fun _ _ _ => false) (fun r => Sum.rec (motive := fun _ => mq_V → (mq_N → mq_V → Bool) → Bool) (fun _ _ _ => false) (fun r => Sum.rec (motive := fun _ => mq_V → (mq_N → mq_V → Bool) → Bool) (fun x env k => k (mq_long x) env) mq_vN3 r) r) w env k
noncomputable def mq_pN (st : List mq_W) (env : mq_V) (k : mq_N → List mq_W → mq_V → Bool) : Bool := List.rec (motive := fun _ => mq_V → (mq_N → List mq_W → mq_V → Bool) → Bool) (fun _ _ => false) (fun w s _ env k => mq_vN w env fun x e => k x s e) st env k
/-- nothing is known of it -/
noncomputable def mq_jk (v : mq_N) : Bool := Sum.rec (motive := fun _ => Bool) (fun _ => false) mq_nil v
/-- a number of which something is known -/
noncomputable def mq_cW (t : mq_Ht) (a : Nat) (k : Nat → Nat → mq_N → Bool) : Bool := mq_cV t a fun b len v => Bool.rec (motive := fun _ => Bool) (k b len v) false (mq_jk v)
noncomputable def mq_wide (b len : Nat) (v : mq_N) : mq_C := some (Sum.inr (Sum.inr (Sum.inl (b, len, v))))
noncomputable def mq_dvd (b len : Nat) (v : mq_N) : mq_C := some (Sum.inr (Sum.inr (Sum.inr (Sum.inl (b, len, v)))))
noncomputable def mq_lim (a : Nat) : mq_C := some (Sum.inr (Sum.inr (Sum.inr (Sum.inr (Sum.inl a)))))
noncomputable def mq_slots (d : mq_T mq_N) : mq_C := some (Sum.inr (Sum.inr (Sum.inr (Sum.inr (Sum.inr d)))))
noncomputable def mq_putW (t : mq_Ht) (a b len : Nat) (v : mq_N) (k : mq_Ht → Bool) : Bool := (Bool.rec (motive := fun _ => Bool) false (mq_hk t a (mq_wide b len v) k) (mq_fit v len))
/-- a number's length or sign is read; its sign is set -/
noncomputable def mq_x_gw (f : Nat) : mq_X := fun loc st n t env κ => mq_pA st env fun a s e => mq_cW t a fun b len v => Bool.rec (motive := fun _ => Bool) (mq_nZ v fun p m => κ loc (Sum.inl (mq_nl (Nat.add p m)) :: s) n t e) (mq_sgn v e fun x e => κ loc (Sum.inl x :: s) n t e) (Nat.beq f (nat_lit 2))
noncomputable def mq_sgs (x : Nat) (v : mq_N) (k : mq_N → Bool) : Bool := mq_nZ v fun p n => Bool.rec (motive := fun _ => Bool) (Bool.rec (motive := fun _ => Bool) (Bool.rec (motive := fun _ => Bool) false (Bool.rec (motive := fun _ => Bool) false (k v) (Nat.beq (Nat.add p n) 0)) (Nat.beq x 0)) (Bool.rec (motive := fun _ => Bool) false (k (Sum.inl (0, Nat.add p n))) (Nat.ble (nat_lit 1) (Nat.add p n))) (Nat.beq x (nat_lit 4294967295))) (Bool.rec (motive := fun _ => Bool) false (k (Sum.inl (Nat.add p n, 0))) (Nat.ble (nat_lit 1) (Nat.add p n))) (Nat.beq x (nat_lit 1))
noncomputable def mq_x_pw : mq_X := fun loc st n t env κ => mq_pI st env fun x s e => mq_pA s e fun a s e => mq_cW t a fun b len v => mq_sgs x v fun v => mq_hk t a (mq_wide b len v) fun t => κ loc s n t e
/-- the sign of a number of the great row is set -/
noncomputable def mq_x_ss : mq_X := fun loc st n t env κ => mq_pI st env fun x s e => mq_pI s e fun i s e => mq_pA s e fun a s e => mq_cS t a fun d => (Bool.rec (motive := fun _ => Bool) false (mq_sgs x (mq_get d (Nat.div i (nat_lit 702))) fun v => mq_setK 10 d (Nat.div i (nat_lit 702)) v fun d => mq_hk t a (mq_slots d) fun t => κ loc s n t e) (mq_and (Nat.beq (Nat.mod i (nat_lit 702)) 0) (Nat.ble (Nat.add i (nat_lit 1)) (nat_lit 466830))))
noncomputable def mq_x_gf (ci f : Nat) : mq_X := fun loc st n t env κ => mq_pA st env fun a s e => mq_cO t a fun ci' fs => (Bool.rec (motive := fun _ => Bool) false ((fun w => (Bool.rec (motive := fun _ => Bool) false (κ loc (w :: s) n t e) (mq_kn w))) (mq_nth (Sum.inr (Sum.inr (Sum.inr (Sum.inr (Sum.inr (Sum.inr (Sum.inr (Sum.inr (some none))))))))) fs f)) (Nat.beq ci' ci))
noncomputable def mq_len {α : Type} (l : List α) : Nat := List.rec (motive := fun _ => Nat) (nat_lit 0) (fun _ _ ih => Nat.add ih (nat_lit 1)) l
/-- a field is set by a word of that kind, by a boolean -/
noncomputable def mq_pfc (kk ci f : Nat) (fs : List mq_W) (a : Nat) (w : mq_W) : List mq_W → List mq_W → Nat → mq_Ht → mq_V → mq_Kt → Bool := fun loc s n t e κ => (Bool.rec (motive := fun _ => Bool) false (mq_hk t a (some (Sum.inr (Sum.inl (ci, (mq_nup (Sum.inr (Sum.inr (Sum.inr (Sum.inr (Sum.inr (Sum.inr (Sum.inr (Sum.inr (some none))))))))) fs f w))))) fun t => κ loc s n t e) (mq_kd kk w))
noncomputable def mq_pfz (ci f : Nat) (fs : List mq_W) (a : Nat) (w : mq_W) : List mq_W → List mq_W → Nat → mq_Ht → mq_V → mq_Kt → Bool := fun loc s n t e κ => mq_vI w e fun x e => (Bool.rec (motive := fun _ => Bool) false (mq_hk t a (some (Sum.inr (Sum.inl (ci, (mq_nup (Sum.inr (Sum.inr (Sum.inr (Sum.inr (Sum.inr (Sum.inr (Sum.inr (Sum.inr (some none))))))))) fs f (Sum.inl x)))))) fun t => κ loc s n t e) (Nat.ble x (nat_lit 1)))
noncomputable def mq_pfk (kd : Nat) : Nat → Nat → List mq_W → Nat → mq_W → List mq_W → List mq_W → Nat → mq_Ht → mq_V → mq_Kt → Bool := Nat.rec (motive := fun _ => Nat → Nat → List mq_W → Nat → mq_W → List mq_W → List mq_W → Nat → mq_Ht → mq_V → mq_Kt → Bool) (mq_pfc 0) (fun m _ => Nat.rec (motive := fun _ => Nat → Nat → List mq_W → Nat → mq_W → List mq_W → List mq_W → Nat → mq_Ht → mq_V → mq_Kt → Bool) (mq_pfc 1) (fun m _ => Nat.rec (motive := fun _ => Nat → Nat → List mq_W → Nat → mq_W → List mq_W → List mq_W → Nat → mq_Ht → mq_V → mq_Kt → Bool) mq_pfz (fun _ _ => mq_pfc 2) m) m) kd
noncomputable def mq_x_pf (ci f kd : Nat) : mq_X := fun loc st n t env κ => mq_p1 st fun w s => mq_pA s env fun a s e => mq_cO t a fun ci' fs => (Bool.rec (motive := fun _ => Bool) false (mq_pfk kd ci f fs a w loc s n t e κ) (mq_and (Nat.beq ci' ci) (Nat.ble (Nat.add f (nat_lit 1)) (mq_len fs))))
noncomputable def mq_leq (t : mq_Ht) (len : Nat) (l : List Nat) : Bool := List.rec (motive := fun _ => Bool) true (fun a _ ih => mq_and (mq_cA t a fun _ len' _ _ => Nat.beq len' len) ih) l
noncomputable def mq_x_al : mq_X := fun loc st n t env κ => mq_p1 st fun w s => match w with
  | (Sum.inr (Sum.inl a)) => mq_cA t a fun _ len _ _ => κ loc ((Sum.inl len) :: s) n t env
  | (Sum.inr (Sum.inr (Sum.inr (Sum.inr (Sum.inr (Sum.inl (i, lo, l))))))) => mq_cA t (mq_hd l) fun _ len _ _ => (Bool.rec (motive := fun _ => Bool) false (κ loc ((Sum.inl len) :: s) n t env) (mq_leq t len l))
  | _ => false
noncomputable def mq_x_ax (ty : Nat) : mq_X := fun loc st n t env κ => mq_pI st env fun i s e => mq_pA s e fun a s e => mq_cA t a fun ty' len dep d => (Bool.rec (motive := fun _ => Bool) false ((fun w => (Bool.rec (motive := fun _ => Bool) false (κ loc (w :: s) n t e) (mq_kn w))) (mq_get d i)) (mq_and (or (Nat.beq ty' ty) (mq_and (Nat.beq ty 0) (Nat.beq ty' 100))) (Nat.ble (Nat.add i (nat_lit 1)) len)))
/-- the places that stand from i on -/
noncomputable def mq_refs (d : mq_T mq_W) (cnt : Nat) : Nat → (List Nat → Bool) → Bool := Nat.rec (motive := fun _ => Nat → (List Nat → Bool) → Bool) (fun _ k => k []) (fun _ ih i k => match mq_get d i with
  | (Sum.inr (Sum.inl a)) => ih (Nat.add i (nat_lit 1)) fun l => k (a :: l)
  | _ => false) cnt
noncomputable def mq_x_aa : mq_X := fun loc st n t env κ => mq_p1 st fun wi s => match wi with
  | (Sum.inl i) => mq_pA s env fun a s e => mq_cA t a fun ty len dep d => (Bool.rec (motive := fun _ => Bool) false ((fun w => (Bool.rec (motive := fun _ => Bool) false (κ loc (w :: s) n t e) (mq_kn w))) (mq_get d i)) (mq_and (Nat.ble ty 6) (mq_and (Nat.ble 3 ty) (Nat.ble (Nat.add i (nat_lit 1)) len))))
  | (Sum.inr (Sum.inr (Sum.inr (Sum.inl (i, m, c))))) => (match mq_bd env i with
    | (lo, hi) => (Bool.rec (motive := fun _ => Bool) false (mq_pA s env fun a s e => mq_cA t a fun ty len dep d => (Bool.rec (motive := fun _ => Bool) false (mq_refs d (Nat.add (Nat.sub hi lo) (nat_lit 1)) (Nat.sub lo (nat_lit 2147483648)) fun l => κ loc ((Sum.inr (Sum.inr (Sum.inr (Sum.inr (Sum.inr (Sum.inl (i, lo, l))))))) :: s) n t e) (mq_and (Nat.ble ty 6) (mq_and (Nat.ble 3 ty) (Nat.ble (Nat.add (Nat.sub hi (nat_lit 2147483648)) (nat_lit 1)) len))))) (mq_and (mq_and (Nat.beq m 1) (Nat.beq c 0)) (mq_and (Nat.ble (nat_lit 2147483648) lo) (Nat.ble lo hi)))))
  | _ => false
noncomputable def mq_x_ast (ty : Nat) : mq_X := fun loc st n t env κ => mq_p1 st fun w s => (Bool.rec (motive := fun _ => Bool) false (mq_pI s env fun i s e => mq_pA s e fun a s e => mq_cA t a fun ty' len dep d => (Bool.rec (motive := fun _ => Bool) false (mq_setK dep d i w fun d => mq_hk t a (some (Sum.inl (ty, len, dep, d))) fun t => κ loc s n t e) (mq_and (Nat.beq ty' ty) (Nat.ble (Nat.add i (nat_lit 1)) len)))) (mq_kd ty w))
/-- what stands in these arrays is forgotten -/
noncomputable def mq_weak (l : List Nat) : mq_Ht → Nat → (mq_Ht → Bool) → Bool := List.rec (motive := fun _ => mq_Ht → Nat → (mq_Ht → Bool) → Bool) (fun t _ k => k t) (fun a _ ih t i k => mq_cA t a fun ty len dep _ => (Bool.rec (motive := fun _ => Bool) false (ih (mq_hset t a ((some (Sum.inl (1, len, dep, ((Lean.RArray.leaf (Sum.inr (Sum.inr (Sum.inr (Sum.inr (Sum.inr (Sum.inr (Sum.inr (Sum.inr (some none)))))))))))))))) i k) (mq_and (Nat.beq ty 1) (Nat.ble (Nat.add i (nat_lit 1)) len)))) l
noncomputable def mq_x_lw : mq_X := fun loc st n t env κ => mq_p1 st fun w s => (Bool.rec (motive := fun _ => Bool) false (mq_p1 s fun wi s => mq_p1 s fun wa s => match wa with
  | (Sum.inr (Sum.inl a)) => (match wi with
    | (Sum.inl i) => mq_cA t a fun ty' len dep d => (Bool.rec (motive := fun _ => Bool) false (mq_setK dep d i w fun d => mq_hk t a (some (Sum.inl (1, len, dep, d))) fun t => κ loc s n t env) (mq_and (Nat.beq ty' 1) (Nat.ble (Nat.add i (nat_lit 1)) len)))
    | (Sum.inr (Sum.inr (Sum.inr (Sum.inl (i, m, c))))) => (match mq_bd env i with
      | (lo, hi) => mq_cA t a fun ty' len dep d => (Bool.rec (motive := fun _ => Bool) false (κ loc s n (mq_hset t a ((some (Sum.inl (1, len, dep, ((Lean.RArray.leaf (Sum.inr (Sum.inr (Sum.inr (Sum.inr (Sum.inr (Sum.inr (Sum.inr (Sum.inr (some none)))))))))))))))) env) (mq_and (mq_and (Nat.beq ty' 1) (Nat.ble len (nat_lit 1000000))) (mq_and (Nat.ble (nat_lit 2147483648) lo) (Nat.ble (Nat.add (Nat.add (Nat.mul (Nat.sub hi (nat_lit 2147483648)) m) c) (nat_lit 1)) len)))))
    | _ => false)
  | (Sum.inr (Sum.inr (Sum.inr (Sum.inr (Sum.inr (Sum.inl (_, _, l))))))) => (match wi with
    | (Sum.inl i) => (match l with
      | [] => false
      | b :: l' => mq_weak (b :: l') t i fun t' => κ loc s n t' env)
    | _ => false)
  | _ => false) (mq_kd 1 w))
noncomputable def mq_x_ba : mq_X := fun loc st n t env κ => mq_pI st env fun x s e => mq_pI s e fun i s e => mq_pA s e fun a s e => mq_cA t a fun ty' len dep d => (Bool.rec (motive := fun _ => Bool) false (mq_setK dep d i (Sum.inl (mq_i2b x)) fun d => mq_hk t a (some (Sum.inl (2, len, dep, d))) fun t => κ loc s n t e) (mq_and (Nat.beq ty' 2) (Nat.ble (Nat.add i (nat_lit 1)) len)))
noncomputable def mq_el (t ci : Nat) : Bool := or (mq_and (Nat.beq t 3) (Nat.beq ci 0)) (or (mq_and (Nat.beq t 4) (Nat.beq ci 3)) (mq_and (Nat.beq t 5) (Nat.beq ci 8)))
noncomputable def mq_x_aas : mq_X := fun loc st n t env κ => mq_pA st env fun v s e => mq_pI s e fun i s e => mq_pA s e fun a s e => mq_cA t a fun ty' len dep d => mq_cC t v fun cv => (Bool.rec (motive := fun _ => Bool) false (mq_setK dep d i (Sum.inr (Sum.inl v)) fun d => mq_hk t a (some (Sum.inl (ty', len, dep, d))) fun t => κ loc s n t e) (mq_and (mq_el ty' cv) (Nat.ble (Nat.add i (nat_lit 1)) len)))
noncomputable def mq_x_nw (ci : Nat) (fs : List mq_W) : mq_X := fun loc st n t env κ => (Bool.rec (motive := fun _ => Bool) false (mq_hk t n (some (Sum.inr (Sum.inl (ci, fs)))) fun t => κ loc ((Sum.inr (Sum.inl n)) :: st) (Nat.add n (nat_lit 1)) t env) (Nat.ble n (nat_lit 1000)))
noncomputable def mq_dep (len : Nat) : Nat := cond (Nat.ble len 1) 0 (cond (Nat.ble len 4) 2 (cond (Nat.ble len 16) 4 (cond (Nat.ble len 32) 5 (cond (Nat.ble len 64) 6 (cond (Nat.ble len 256) 8 (cond (Nat.ble len 1024) 10 (nat_lit 20)))))))
noncomputable def mq_dv (t : Nat) : mq_W := cond (Nat.beq t 1) ((Sum.inr (Sum.inr (Sum.inl 0)))) (cond (Nat.ble t 2) ((Sum.inl 0)) (Sum.inr (Sum.inr (Sum.inr (Sum.inr (Sum.inr (Sum.inr (Sum.inr (Sum.inr none)))))))))
noncomputable def mq_new (ty len : Nat) : mq_C := Bool.rec (motive := fun _ => mq_C) (Bool.rec (motive := fun _ => mq_C) (some (Sum.inl (ty, len, (mq_dep len), (Lean.RArray.leaf (mq_dv ty))))) (some (Sum.inl (ty, len, (mq_dep len), (Lean.RArray.leaf (Sum.inr (Sum.inr (Sum.inr (Sum.inr (Sum.inr (Sum.inr (Sum.inr (Sum.inr (some none))))))))))))) (mq_and (Nat.beq ty 0) (or (Nat.beq len (nat_lit 1404)) (Nat.beq len (nat_lit 702))))) (mq_slots (Lean.RArray.leaf (Sum.inl (0, 0)))) (mq_and (Nat.beq ty 0) (Nat.beq len (nat_lit 466830)))
noncomputable def mq_x_na (ty : Nat) : mq_X := fun loc st n t env κ => mq_pI st env fun len s e => (Bool.rec (motive := fun _ => Bool) false (mq_hk t n (mq_new ty len) fun t => κ loc ((Sum.inr (Sum.inl n)) :: s) (Nat.add n (nat_lit 1)) t e) (mq_and (Nat.ble n (nat_lit 1000)) (mq_and (Nat.ble len (nat_lit 1000000)) (or (Nat.ble len (nat_lit 6000)) (Nat.beq n (nat_lit 566))))))
noncomputable def mq_x_mn : mq_X := fun loc st n t env κ => mq_pI st env fun k s e => mq_pI s e fun m s e => (Bool.rec (motive := fun _ => Bool) false (κ loc ((Sum.inr (Sum.inl n)) :: s) (Nat.add (Nat.add n (nat_lit 1)) m)
  (Nat.rec (motive := fun _ => mq_Ht) (mq_hset t n ((some (Sum.inl (6, m, 4, (Nat.rec (motive := fun _ => mq_T mq_W) ((Lean.RArray.leaf (Sum.inr (Sum.inr (Sum.inr (Sum.inr (Sum.inr (Sum.inr (Sum.inr (Sum.inr none)))))))))) (fun i d => mq_set 4 d i ((Sum.inr (Sum.inl (Nat.add (Nat.add n (nat_lit 1)) i))))) m)))))) (fun i t => mq_hset t (Nat.add (Nat.add n (nat_lit 1)) i) ((some (Sum.inl (1, k, (mq_dep k), ((Lean.RArray.leaf ((Sum.inr (Sum.inr (Sum.inl 0))))))))))) m) e) (mq_and (Nat.ble n (nat_lit 900)) (mq_and (Nat.ble m (nat_lit 16)) (Nat.ble k (nat_lit 1000)))))
noncomputable def mq_cat (st : List mq_W) : Bool := match st with
  | [] => true
  | [_] => true
  | [_, _] => true
  | [_, _, _] => true
  | [_, _, _, _] => true
  | _ => false
noncomputable def mq_x_mx : mq_X := fun loc st n t env κ => mq_pI st env fun y s e => mq_pI s e fun x s e => (Bool.rec (motive := fun _ => Bool) false (κ loc ((Sum.inl (cond (Nat.ble (Nat.add (mq_o32 x) (nat_lit 1)) (mq_o32 y)) y x)) :: s) n t e) (mq_cat s))
noncomputable def mq_x_mi : mq_X := fun loc st n t env κ => mq_pI st env fun y s e => mq_pI s e fun x s e => (Bool.rec (motive := fun _ => Bool) false (κ loc ((Sum.inl (cond (Nat.ble (Nat.add (mq_o32 y) (nat_lit 1)) (mq_o32 x)) y x)) :: s) n t e) (mq_cat s))
noncomputable def mq_cpy (d0 : mq_T mq_W) (dep sp dp cnt : Nat) (d1 : mq_T mq_W) : mq_T mq_W := Nat.rec (motive := fun _ => mq_T mq_W) d1 (fun i d => mq_set dep d (Nat.add dp i) (mq_get d0 (Nat.add sp i))) cnt
noncomputable def mq_x_cp : mq_X := fun loc st n t env κ => mq_pI st env fun cnt s e => mq_pI s e fun dp s e => mq_pA s e fun a1 s e => mq_pI s e fun sp s e => mq_pA s e fun a0 s e =>
  mq_cA t a0 fun ty0 len0 _ d0 => mq_cA t a1 fun ty1 len1 dep1 d1 => (Bool.rec (motive := fun _ => Bool) false ((Bool.rec (motive := fun _ => Bool) false (κ loc s n (mq_hset t a1 ((some (Sum.inl (ty1, len1, dep1, (mq_cpy d0 dep1 sp dp cnt d1)))))) e) (mq_all cnt fun i => mq_kd ty0 (mq_get d0 (Nat.add sp i))))) (mq_and (mq_and (mq_cat s) (mq_and (Nat.beq ty0 ty1) (Nat.ble ty0 1))) (mq_and (mq_and (Nat.ble (Nat.add sp cnt) len0) (Nat.ble (Nat.add dp cnt) len1)) (mq_and (mq_and (Nat.ble sp (nat_lit 1000000)) (Nat.ble dp (nat_lit 1000000))) (Nat.ble cnt (nat_lit 1000000))))))
noncomputable def mq_x_ob : mq_X := fun loc st n t env κ => mq_pA st env fun _ s e => (Bool.rec (motive := fun _ => Bool) false (κ loc s n t e) (mq_cat s))
noncomputable def mq_bad : mq_X := fun _ _ _ _ _ _ => false
noncomputable def mq_exI : Instr → mq_X := fun x => ClassFile.Instr.rec (motive := fun _ => mq_X) mq_x_aa mq_x_aas mq_bad (fun _ => mq_bad) (fun _ => mq_bad) (fun _ => mq_bad) mq_bad mq_x_al (fun _ => mq_bad) (fun _ => mq_bad) mq_bad mq_bad mq_x_ba (fun _ => mq_bad) mq_bad mq_x_lw (fun _ => mq_bad) mq_bad mq_bad mq_bad mq_bad mq_bad mq_bad (fun op => mq_x_dc op) (fun _ => mq_bad) mq_x_ddiv (fun _ => mq_bad) (fun _ => mq_bad) mq_bad mq_bad mq_bad mq_bad (fun _ => mq_bad) (fun _ => mq_bad) mq_bad mq_x_dup mq_x_mx mq_x_mi mq_x_dup2 mq_x_pw mq_x_ss mq_x_f2d mq_bad mq_bad mq_bad mq_x_cp mq_x_ob (fun _ => mq_bad) (fun _ => mq_bad) mq_x_fdiv (fun _ => mq_bad) (fun _ => mq_bad) mq_bad mq_bad mq_bad mq_bad (fun _ => mq_bad) (fun _ => mq_bad) mq_bad (fun _ => mq_bad) (fun _ => mq_bad) (fun _ => mq_bad) (fun _ => mq_bad) (mq_x_u32 mq_i2b) mq_bad mq_x_i2d mq_x_i2f mq_x_i2l mq_bad mq_x_iadd mq_bad mq_x_iand (mq_x_ast 0) (fun _ => mq_bad) (mq_x_d32 mq_div32) (fun _ _ => mq_bad) (fun _ _ => mq_bad) (fun _ _ => mq_bad) (fun _ => mq_bad) (fun _ => mq_bad) (fun _ _ => mq_bad) (fun _ => mq_bad) (fun _ => mq_bad) mq_x_imul (mq_x_u32 mq_neg32) (fun _ => mq_bad) (fun _ => mq_bad) (fun _ _ => mq_bad) (fun _ => mq_bad) (fun _ => mq_bad) (fun _ => mq_bad) mq_bad (mq_x_d32 mq_rem32) mq_bad mq_bad mq_bad (fun _ => mq_bad) (fun _ => mq_bad) (mq_x_b32 mq_sub32) mq_bad mq_bad (fun _ => mq_bad) (fun _ => mq_bad) mq_bad mq_bad mq_x_l2i (mq_x_b64 mq_add64) mq_bad mq_x_land (mq_x_ast 1) mq_bad (fun _ => mq_bad) (fun _ => mq_bad) (fun _ => mq_bad) (fun _ => mq_bad) (mq_x_d64 mq_div64) (fun _ => mq_bad) (fun _ => mq_bad) (mq_x_b64 mq_mul64) mq_x_lneg (fun _ _ => mq_bad) mq_x_lor (mq_x_d64 mq_rem64) mq_bad mq_x_lshl mq_bad (fun _ => mq_bad) (fun _ => mq_bad) (mq_x_b64 mq_sub64) mq_bad mq_bad mq_bad mq_bad (fun _ _ => mq_bad) (fun _ => mq_bad) (fun _ => mq_bad) (mq_x_gw 2) mq_x_pop mq_x_pop2 (fun _ => mq_bad) (fun _ => mq_bad) (fun _ => mq_bad) mq_bad mq_bad mq_x_mn (fun _ => mq_bad) (mq_x_gw 1) (fun _ _ _ _ => mq_bad) x
noncomputable def mq_ex (o : mq_O) : mq_X := Sum.rec (motive := fun _ => mq_X) (fun w => mq_x_pu w) (fun r => Sum.rec (motive := fun _ => mq_X) (fun q => Prod.rec (motive := fun _ => mq_X) (fun kd i => mq_x_ld kd i) q) (fun r => Sum.rec (motive := fun _ => mq_X) (fun q => Prod.rec (motive := fun _ => mq_X) (fun kd i => mq_x_st kd i) q) (fun r => Sum.rec (motive := fun _ => mq_X) (fun x => mq_exI x)
  (fun r => Sum.rec (motive := fun _ => mq_X) (fun q => Prod.rec (motive := fun _ => mq_X) (fun ci f => mq_x_gf ci f) q) (fun r => Sum.rec (motive := fun _ => mq_X) (fun q => Prod.rec (motive := fun _ => mq_X) (fun i c => mq_x_ii i c) q) (fun r => Sum.rec (motive := fun _ => mq_X) (fun ty => mq_x_ax ty) (fun r => Sum.rec (motive := fun _ => mq_X) (fun q => Prod.rec (motive := fun _ => mq_X) (fun ci q => Prod.rec (motive := fun _ => mq_X) (fun f kd => mq_x_pf ci f kd) q) q)
  (fun r => Sum.rec (motive := fun _ => mq_X) (fun ty => mq_x_na ty) (fun r => Sum.rec (motive := fun _ => mq_X) (fun ty => mq_x_na ty) (fun q => Prod.rec (motive := fun _ => mq_X) (fun ci fs => mq_x_nw ci fs) q) r) r) r) r) r) r) r) r) r) o
/-- code: a straight step, jumps by an int, by two ints, by two longs (the label), a call (the method, arguments, receiver, handlers: what an exception is, the local that takes it, the label), a jump, a switch, a return, a throw, a stop -/
abbrev mq_It : Type := Sum mq_O (Sum (ClassFile.Cond × Nat) (Sum (ClassFile.Cond × Nat) (Sum (ClassFile.Cond × Nat) (Sum (Nat × Nat × Nat × List (Nat × Nat × Nat)) (Sum Nat (Sum (List Nat × Nat) (Sum Nat (Sum Nat Nat))))))))
abbrev mq_K : Type := List mq_It
def mq_iO (x : mq_O) : mq_It := .inl x
def mq_iB (c : ClassFile.Cond) (l : Nat) : mq_It := .inr (.inl (c, l))
def mq_iC (c : ClassFile.Cond) (l : Nat) : mq_It := .inr (.inr (.inl (c, l)))
def mq_iF (c : ClassFile.Cond) (l : Nat) : mq_It := .inr (.inr (.inr (.inl (c, l))))
def mq_iY (j na rc : Nat) (hs : List (Nat × Nat × Nat)) : mq_It := .inr (.inr (.inr (.inr (.inl (j, na, rc, hs)))))
def mq_iG (l : Nat) : mq_It := .inr (.inr (.inr (.inr (.inr (.inl l)))))
def mq_iS (ls : List Nat) (ld : Nat) : mq_It := .inr (.inr (.inr (.inr (.inr (.inr (.inl (ls, ld)))))))
def mq_iR (kd : Nat) : mq_It := .inr (.inr (.inr (.inr (.inr (.inr (.inr (.inl kd)))))))
def mq_iH (i : Nat) : mq_It := .inr (.inr (.inr (.inr (.inr (.inr (.inr (.inr (.inl i))))))))
def mq_iZ (p : Nat) : mq_It := .inr (.inr (.inr (.inr (.inr (.inr (.inr (.inr (.inr p))))))))
abbrev mq_Kr : Type := mq_W → Nat → mq_Ht → mq_V → Bool
abbrev mq_Kx : Type := Nat → Nat → mq_Ht → mq_V → Bool
abbrev mq_J : Type := Nat → mq_Kt
abbrev mq_Ca : Type := Nat → List mq_W → Nat → mq_Ht → mq_V → mq_Kr → mq_Kx → Bool
abbrev mq_Y : Type := mq_J → mq_J → mq_Ca → mq_Kr → mq_Kx → mq_Kt
noncomputable def mq_rev (st : List mq_W) : Nat → List mq_W → (List mq_W → List mq_W → Bool) → Bool := List.rec (motive := fun _ => Nat → List mq_W → (List mq_W → List mq_W → Bool) → Bool) (fun m as k => Nat.rec (motive := fun _ => Bool) (k as []) (fun _ _ => false) m) (fun w s ih m as k => Nat.rec (motive := fun _ => Bool) (k as (w :: s)) (fun m _ => ih m (w :: as) k) m) st
/-- the receiver: 0 none needed, 1 an object or array, ci + 2 an object of that class -/
noncomputable def mq_rcv (rc : Nat) (as : List mq_W) (t : mq_Ht) : Bool := Nat.rec (motive := fun _ => Bool) true (fun m _ => match as with
  | .inr (.inl a) :: _ => Nat.rec (motive := fun _ => Bool) true (fun m _ => mq_cC t a fun ci => Nat.beq ci m) m
  | _ => false) rc
noncomputable def mq_hs (hs : List (Nat × Nat × Nat)) (i : Nat) (k : Nat → Nat → Bool) : Bool := List.rec (motive := fun _ => Bool) false (fun x _ ih => match x with
  | (j, kk, l) => cond (Nat.beq j i) (k kk l) ih) hs
noncomputable def mq_psh (w : mq_W) (s : List mq_W) : List mq_W := Bool.rec (motive := fun _ => List mq_W) s (w :: s) (mq_kn w)
noncomputable def mq_isn {α : Type} (l : List α) : Bool := match l with
  | [] => true
  | _ => false
noncomputable def mq_k_y (j na rc : Nat) (hs : List (Nat × Nat × Nat)) (ih : mq_Y) : mq_Y := fun ks jp ca kr kx loc st n t env => mq_rev st na [] fun as s => (Bool.rec (motive := fun _ => Bool) false (ca j as n t env (fun w n t e => ih ks jp ca kr kx loc (mq_psh w s) n t e) (fun i n t e => cond (mq_isn hs) (kx i n t e) (mq_hs hs i fun kk l => jp l (mq_nup mq_U (mq_up1 loc kk (Sum.inl 0)) kk mq_U) [] n t e))) (mq_and (mq_cat s) (mq_rcv rc as t)))
noncomputable def mq_k_r (kd : Nat) : mq_Y := fun ks jp ca kr kx loc st n t env => match st with
  | [] => (Bool.rec (motive := fun _ => Bool) false (kr mq_U n t env) (Nat.beq kd 6))
  | [w] => cond (Nat.beq kd 4) (mq_vI w env fun x e => (Bool.rec (motive := fun _ => Bool) false (kr (Sum.inl x) n t e) (Nat.ble x 1))) ((Bool.rec (motive := fun _ => Bool) false (kr w n t env) (mq_kd kd w)))
  | _ => false
noncomputable def mq_k_h (i : Nat) : mq_Y := fun ks jp ca kr kx loc st n t env => (Bool.rec (motive := fun _ => Bool) false (kx i (Nat.add n (nat_lit 1)) (mq_hset t n none) env) (mq_and (mq_cat st) (Nat.ble n (nat_lit 1000))))
noncomputable def mq_k_o (x : mq_X) (ih : mq_Y) : mq_Y := fun ks jp ca kr kx loc st n t env => x loc st n t env (ih ks jp ca kr kx)
noncomputable def mq_k_g (l : Nat) : mq_Y := fun ks jp ca kr kx => jp l
noncomputable def mq_k_z (p : Nat) : mq_Y := fun ks jp ca kr kx => ks p
noncomputable def mq_k_b (c : ClassFile.Cond) (l : Nat) (ih : mq_Y) : mq_Y := fun ks jp ca kr kx loc st n t env => mq_p1 st fun w s => mq_cI c w (Sum.inl 0) env fun b e => cond b (jp l loc s n t e) (ih ks jp ca kr kx loc s n t e)
noncomputable def mq_k_c (c : ClassFile.Cond) (l : Nat) (ih : mq_Y) : mq_Y := fun ks jp ca kr kx loc st n t env => mq_p1 st fun wy s => mq_p1 s fun wx s => mq_cI c wx wy env fun b e => cond b (jp l loc s n t e) (ih ks jp ca kr kx loc s n t e)
noncomputable def mq_k_f (c : ClassFile.Cond) (l : Nat) (ih : mq_Y) : mq_Y := fun ks jp ca kr kx loc st n t env => mq_p1 st fun wy s => mq_p1 s fun wx s => mq_cJ c wx wy env fun b e => cond b (jp l loc s n t e) (ih ks jp ca kr kx loc s n t e)
noncomputable def mq_k_s (ls : List Nat) (ld : Nat) : mq_Y := fun ks jp ca kr kx loc st n t env => mq_pI st env fun x s e => jp (mq_nth ld ls (mq_sub32 x 0)) loc s n t e
noncomputable def mq_it (x : mq_It) (ih : mq_Y) : mq_Y := Sum.rec (motive := fun _ => mq_Y) (fun o => mq_k_o (mq_ex o) ih) (fun r => Sum.rec (motive := fun _ => mq_Y) (fun q => Prod.rec (motive := fun _ => mq_Y) (fun c l => mq_k_b c l ih) q) (fun r => Sum.rec (motive := fun _ => mq_Y) (fun q => Prod.rec (motive := fun _ => mq_Y) (fun c l => mq_k_c c l ih) q) (fun r => Sum.rec (motive := fun _ => mq_Y) (fun q => Prod.rec (motive := fun _ => mq_Y) (fun c l => mq_k_f c l ih) q)
  (fun r => Sum.rec (motive := fun _ => mq_Y) (fun q => Prod.rec (motive := fun _ => mq_Y) (fun j q => Prod.rec (motive := fun _ => mq_Y) (fun na q => Prod.rec (motive := fun _ => mq_Y) (fun rc hs => mq_k_y j na rc hs ih) q) q) q) (fun r => Sum.rec (motive := fun _ => mq_Y) (fun l => mq_k_g l) (fun r => Sum.rec (motive := fun _ => mq_Y) (fun q => Prod.rec (motive := fun _ => mq_Y) (fun ls ld => mq_k_s ls ld) q) (fun r => Sum.rec (motive := fun _ => mq_Y) (fun kd => mq_k_r kd)
  (fun r => Sum.rec (motive := fun _ => mq_Y) (fun i => mq_k_h i) (fun p => mq_k_z p) r) r) r) r) r) r) r) r) x
noncomputable def mq_run (k : mq_K) : mq_Y := List.rec (motive := fun _ => mq_Y) (fun _ _ _ _ _ _ _ _ _ _ => false) (fun x _ ih => mq_it x ih) k
noncomputable def mq_none : mq_Y := fun _ _ _ _ _ _ _ _ _ _ => false
noncomputable def mq_ne (i j : Nat) : Bool := Bool.rec (motive := fun _ => Bool) true false (Nat.beq i j)
abbrev mq_Oc : Type := List mq_W → Nat → mq_Ht → mq_V → mq_Kr → mq_Kx → Bool
noncomputable def mq_qA (as : List mq_W) (env : mq_V) (k : Nat → List mq_W → mq_V → Bool) : Bool := mq_pA as env k
noncomputable def mq_is0 (w : mq_W) : Bool := Sum.rec (motive := fun _ => Bool) (fun n => Nat.beq n 0) (fun _ => false) w
/-- a number's room is made -/
noncomputable def mq_o_init : mq_Oc := fun as n t env kr kx => mq_pA as env fun a s e => mq_pI s e fun m s e => mq_cO t a fun ci fs => (Bool.rec (motive := fun _ => Bool) false (mq_hk t a (mq_wide n m (Sum.inl (0, 0))) fun t => mq_hk t n (mq_lim a) fun t => kr mq_U (Nat.add n (nat_lit 1)) t e) (mq_and (mq_and (Nat.beq ci (nat_lit 8)) (mq_and (Nat.beq (mq_len fs) (nat_lit 3)) (mq_and (mq_is0 (mq_nth mq_U fs 1)) (mq_is0 (mq_nth mq_U fs 2))))) (mq_and (Nat.ble n (nat_lit 1000)) (mq_and (Nat.ble (nat_lit 1) m) (Nat.ble m (nat_lit 700))))))
noncomputable def mq_o_dinit : mq_Oc := fun as n t env kr kx => mq_pA as env fun a s e => mq_pI s e fun m s e => mq_cO t a fun ci fs => (Bool.rec (motive := fun _ => Bool) false (mq_hk t a (mq_dvd n m (Sum.inl (0, 0))) fun t => mq_hk t n (mq_lim a) fun t => kr mq_U (Nat.add n (nat_lit 1)) t e) (mq_and (mq_and (Nat.beq ci (nat_lit 2)) (mq_and (Nat.beq (mq_len fs) (nat_lit 4)) (mq_and (mq_is0 (mq_nth mq_U fs 1)) (mq_is0 (mq_nth mq_U fs 2))))) (mq_and (Nat.ble n (nat_lit 1000)) (mq_and (Nat.ble (nat_lit 1) m) (Nat.ble m (nat_lit 700))))))
noncomputable def mq_o_setLong : mq_Oc := fun as n t env kr kx => mq_pA as env fun a s e => mq_pN s e fun v s e => mq_cV t a fun b len _ => mq_putW t a b len v fun t => kr mq_U n t e
noncomputable def mq_o_set : mq_Oc := fun as n t env kr kx => mq_pA as env fun a s e => mq_pA s e fun o s e => mq_cV t a fun b len _ => mq_cW t o fun _ _ v => (Bool.rec (motive := fun _ => Bool) (mq_putW t a b len v fun t => kr mq_U n t e) false (Nat.beq a o))
noncomputable def mq_o_size : mq_Oc := fun as n t env kr kx => mq_pA as env fun a s e => mq_pA s e fun o s e => mq_cW t a fun b len _ => mq_cW t o fun _ _ v => (Bool.rec (motive := fun _ => Bool) (mq_nZ v fun p m => mq_putW t a b len (Sum.inl (Nat.add p m, 0)) fun t => kr mq_U n t e) false (Nat.beq a o))
noncomputable def mq_o_plus : mq_Oc := fun as n t env kr kx => mq_pA as env fun a s e => mq_pA s e fun o s e => mq_pI s e fun f s e => mq_cW t a fun b len u => mq_cW t o fun _ _ v => (Bool.rec (motive := fun _ => Bool) false (Bool.rec (motive := fun _ => Bool) (Bool.rec (motive := fun _ => Bool) false (Bool.rec (motive := fun _ => Bool) (mq_neg v fun v => mq_add u v fun v => mq_putW t a b len v fun t => kr mq_U n t e) false (Nat.beq a o)) (Nat.beq f (nat_lit 4294967295))) (mq_add u v fun v => mq_putW t a b len v fun t => kr mq_U n t e) (Nat.beq f (nat_lit 1))) (mq_fit v len))
noncomputable def mq_o_prod : mq_Oc := fun as n t env kr kx => mq_pA as env fun a s e => mq_pA s e fun x s e => mq_pA s e fun y s e => mq_cV t a fun b len _ => mq_cW t x fun _ _ u => mq_cW t y fun _ _ v => (Bool.rec (motive := fun _ => Bool) (mq_mul u v fun v => mq_putW t a b len v fun t => kr mq_U n t e) false (or (Nat.beq x y) (or (Nat.beq a x) (Nat.beq a y))))
noncomputable def mq_o_scale : mq_Oc := fun as n t env kr kx => mq_pA as env fun a s e => mq_pJ s e fun f s e => mq_cW t a fun b len v => mq_nZ v fun p m => (Bool.rec (motive := fun _ => Bool) false (mq_putW t a b len (Sum.inl (Nat.mul p f, Nat.mul m f)) fun t => kr mq_U n t e) (mq_and (Nat.ble (nat_lit 1) f) (Nat.ble f (nat_lit 1000000000))))
noncomputable def mq_o_cut : mq_Oc := fun as n t env kr kx => mq_pA as env fun a s e => mq_pJ s e fun f s e => mq_cW t a fun b len v => mq_nZ v fun p m => (Bool.rec (motive := fun _ => Bool) false (mq_putW t a b len (Sum.inl (Nat.div p f, Nat.div m f)) fun t => kr mq_U n t e) (mq_and (Nat.ble (nat_lit 1) f) (Nat.ble f (nat_lit 1000000000))))
noncomputable def mq_o_low : mq_Oc := fun as n t env kr kx => mq_pA as env fun a s e => mq_cW t a fun b len v => mq_nZ v fun p m => kr (Sum.inr (Sum.inr (Sum.inl (mq_sub64 p m)))) n t e
noncomputable def mq_o_digits : mq_Oc := fun as n t env kr kx => mq_pA as env fun a s e => mq_cW t a fun b len v => mq_nZ v fun p m => (Bool.rec (motive := fun _ => Bool) false (kr (Sum.inl 1) n t e) (Nat.ble (Nat.add p m) (nat_lit 9)))
noncomputable def mq_o_digit : mq_Oc := fun as n t env kr kx => mq_pA as env fun a s e => mq_pI s e fun i s e => mq_cW t a fun b len v => mq_nZ v fun p m => (Bool.rec (motive := fun _ => Bool) false (kr (Sum.inl (Nat.add p m)) n t e) (mq_and (Nat.beq i 0) (Nat.ble (Nat.add p m) (nat_lit 9))))
noncomputable def mq_o_prep : mq_Oc := fun as n t env kr kx => mq_pA as env fun a s e => mq_pA s e fun o s e => mq_cD t a fun b len _ => mq_cW t o fun _ _ v => (Bool.rec (motive := fun _ => Bool) false (mq_hk t a (mq_dvd b len v) fun t => kr mq_U n t e) (mq_fit v len))
noncomputable def mq_quoZ (p n q m : Nat) : mq_N := mq_mk (Nat.add (Nat.div p q) (Nat.div n m)) (Nat.add (Nat.div p m) (Nat.div n q))
noncomputable def mq_o_split : mq_Oc := fun as n t env kr kx => mq_pA as env fun a s e => mq_pA s e fun u s e => mq_pA s e fun w s e => mq_cD t a fun _ _ v => mq_cW t u fun b len x => mq_cW t w fun b2 len2 _ => mq_nZ x fun p m => mq_nZ v fun p2 m2 => (Bool.rec (motive := fun _ => Bool) false
  (mq_putW t u b len (Sum.inl (Nat.mod p (Nat.add p2 m2), Nat.mod m (Nat.add p2 m2))) fun t => mq_putW t w b2 len2 (mq_quoZ p m p2 m2) fun t => kr mq_U n t e) (mq_and (mq_ne u w) (mq_and (Nat.ble (nat_lit 1) (Nat.add p2 m2)) (Nat.ble (Nat.add (Nat.mul (Nat.add p m) (nat_lit 1000000000)) (nat_lit 1)) (Nat.pow (nat_lit 1000000000) len)))))
/-- the reference's great row -/
noncomputable def mq_rS (t : mq_Ht) (a : Nat) (k : Nat → mq_T mq_N → Bool) : Bool := mq_cO t a fun ci fs => (Bool.rec (motive := fun _ => Bool) false (mq_vA (mq_nth mq_U fs 4) [] fun b _ => mq_cS t b fun d => k b d) (Nat.beq ci (nat_lit 10)))
noncomputable def mq_isU (d : mq_T mq_W) : Bool := Lean.RArray.rec (motive := fun _ => Bool) (fun v => Bool.rec (motive := fun _ => Bool) true false (mq_kn v)) (fun _ _ _ _ _ => false) d
/-- a row of ints of that length of which nothing is known -/
noncomputable def mq_row (t : mq_Ht) (w : mq_W) (z : Nat) (k : Nat → Bool) : Bool := mq_vA w [] fun b _ => mq_cA t b fun ty len _ d => Bool.rec (motive := fun _ => Bool) false (k b) (mq_and (mq_and (Nat.beq ty 0) (Nat.beq len z)) (mq_isU d))
/-- the reference's rows: the great one, 'over' and 'by' -/
noncomputable def mq_rO (t : mq_Ht) (a : Nat) (k : Nat → mq_T mq_N → Bool) : Bool := mq_cO t a fun ci fs => Bool.rec (motive := fun _ => Bool) false (mq_row t (mq_nth mq_U fs 5) (nat_lit 1404) fun _ => mq_row t (mq_nth mq_U fs 6) (nat_lit 702) fun _ => mq_rS t a k) (Nat.beq ci (nat_lit 10))
noncomputable def mq_putS (t : mq_Ht) (b : Nat) (d : mq_T mq_N) (s : Nat) (v : mq_N) (k : mq_Ht → Bool) : Bool := (Bool.rec (motive := fun _ => Bool) false (mq_setK 10 d s v fun d => mq_hk t b (mq_slots d) k) (mq_and (Nat.ble (Nat.add s (nat_lit 1)) (nat_lit 665)) (mq_fit v (nat_lit 698))))
noncomputable def mq_r_sign : mq_Oc := fun as n t env kr kx => mq_pA as env fun a s e => mq_pI s e fun i s e => mq_rS t a fun b d => (Bool.rec (motive := fun _ => Bool) false (mq_sgn (mq_get d i) e fun x e => kr (Sum.inl x) n t e) (Nat.ble (Nat.add i (nat_lit 1)) (nat_lit 665)))
noncomputable def mq_r_length : mq_Oc := fun as n t env kr kx => mq_pA as env fun a s e => mq_pI s e fun i s e => mq_rS t a fun b d => (Bool.rec (motive := fun _ => Bool) false (mq_nZ (mq_get d i) fun p m => kr (Sum.inl (mq_nl (Nat.add p m))) n t e) (Nat.ble (Nat.add i (nat_lit 1)) (nat_lit 665)))
noncomputable def mq_r_limb : mq_Oc := fun as n t env kr kx => mq_pA as env fun a s e => mq_pI s e fun i s e => mq_pI s e fun j s e => mq_rS t a fun b d => (Bool.rec (motive := fun _ => Bool) false (mq_nZ (mq_get d i) fun p m => kr (Sum.inl (Nat.mod (Nat.div (Nat.add p m) (Nat.pow (nat_lit 1000000000) j)) (nat_lit 1000000000))) n t e) (mq_and (Nat.ble (Nat.add i (nat_lit 1)) (nat_lit 665)) (Nat.ble j (nat_lit 700))))
noncomputable def mq_r_sets : mq_Oc := fun as n t env kr kx => mq_pA as env fun a s e => mq_pI s e fun i s e => mq_pN s e fun v s e => mq_rS t a fun b d => mq_putS t b d i v fun t => kr mq_U n t e
noncomputable def mq_r_copies : mq_Oc := fun as n t env kr kx => mq_pA as env fun a s e => mq_pI s e fun i s e => mq_pI s e fun j s e => mq_rS t a fun b d => (Bool.rec (motive := fun _ => Bool) false (mq_putS t b d i (mq_get d j) fun t => kr mq_U n t e) (Nat.ble (Nat.add j (nat_lit 1)) (nat_lit 665)))
noncomputable def mq_cpN (x y : Nat) : Nat := Bool.rec (motive := fun _ => Nat) (Bool.rec (motive := fun _ => Nat) 0 (nat_lit 4294967295) (Nat.ble (Nat.add x 1) y)) (nat_lit 1) (Nat.ble (Nat.add y 1) x)
noncomputable def mq_r_cmp : mq_Oc := fun as n t env kr kx => mq_pA as env fun a s e => mq_pI s e fun i s e => mq_pI s e fun j s e => mq_rS t a fun b d => (Bool.rec (motive := fun _ => Bool) false (mq_nZ (mq_get d i) fun p m => mq_nZ (mq_get d j) fun p2 m2 => kr (Sum.inl (mq_cpN (Nat.add p m) (Nat.add p2 m2))) n t e) (mq_and (Nat.ble (Nat.add i (nat_lit 1)) (nat_lit 665)) (Nat.ble (Nat.add j (nat_lit 1)) (nat_lit 665))))
noncomputable def mq_r_adds : mq_Oc := fun as n t env kr kx => mq_pA as env fun a s e => mq_pI s e fun to s e => mq_pI s e fun i s e => mq_pI s e fun j s e => mq_pI s e fun f s e => mq_rS t a fun b d => (Bool.rec (motive := fun _ => Bool) false (Bool.rec (motive := fun _ => Bool) (Bool.rec (motive := fun _ => Bool) false (mq_neg (mq_get d j) fun v => mq_add (mq_get d i) v fun v => mq_putS t b d to v fun t => kr mq_U n t e) (Nat.beq f (nat_lit 4294967295))) (mq_add (mq_get d i) (mq_get d j) fun v => mq_putS t b d to v fun t => kr mq_U n t e) (Nat.beq f (nat_lit 1))) (mq_and (Nat.ble (Nat.add i (nat_lit 1)) (nat_lit 665)) (Nat.ble (Nat.add j (nat_lit 1)) (nat_lit 665))))
noncomputable def mq_r_mul : mq_Oc := fun as n t env kr kx => mq_pA as env fun a s e => mq_pI s e fun to s e => mq_pI s e fun i s e => mq_pI s e fun j s e => mq_rO t a fun b d => (Bool.rec (motive := fun _ => Bool) false (mq_mul (mq_get d i) (mq_get d j) fun v => mq_putS t b d to v fun t => kr mq_U n t e) (mq_and (Nat.ble (Nat.add i (nat_lit 1)) (nat_lit 665)) (Nat.ble (Nat.add j (nat_lit 1)) (nat_lit 665))))
noncomputable def mq_r_cuts : mq_Oc := fun as n t env kr kx => mq_pA as env fun a s e => mq_pI s e fun q s e => mq_pI s e fun r s e => mq_pI s e fun i s e => mq_pI s e fun j s e => mq_rO t a fun b d => mq_nZ (mq_get d i) fun p m => mq_nZ (mq_get d j) fun p2 m2 => (Bool.rec (motive := fun _ => Bool) false
  (mq_putS t b d q (mq_quoZ p m p2 m2) fun t => mq_cS t b fun d => mq_putS t b d r (Sum.inl (Nat.mod p (Nat.add p2 m2), Nat.mod m (Nat.add p2 m2))) fun t => kr mq_U n t e) (mq_and (mq_and (mq_and (mq_ne q r) (mq_and (mq_ne q i) (mq_ne q j))) (mq_and (mq_ne r i) (mq_ne r j))) (mq_and (mq_and (Nat.ble (Nat.add i (nat_lit 1)) (nat_lit 665)) (Nat.ble (Nat.add j (nat_lit 1)) (nat_lit 665))) (Nat.ble (nat_lit 1) (Nat.add p2 m2)))))
noncomputable def mq_r_long : mq_Oc := fun as n t env kr kx => mq_pA as env fun a s e => mq_pI s e fun i s e => mq_rS t a fun b d => (Bool.rec (motive := fun _ => Bool) false (mq_nZ (mq_get d i) fun p m => kr (Sum.inr (Sum.inr (Sum.inl (mq_sub64 p m)))) n t e) (Nat.ble (Nat.add i (nat_lit 1)) (nat_lit 665)))
/-- the rest of a long by a small number -/
noncomputable def mq_rsd (x p : Nat) : Nat := Bool.rec (motive := fun _ => Nat) (Nat.mod x p) (Nat.mod (Nat.sub p (Nat.mod (Nat.sub (nat_lit 18446744073709551616) x) p)) p) (Nat.ble (nat_lit 9223372036854775808) x)
noncomputable def mq_p97 (p : Nat) : Bool := mq_and (Nat.ble (nat_lit 2) p) (Nat.ble p (nat_lit 97))
noncomputable def mq_x64 (x : Nat) : Bool := Nat.ble (Nat.add x (nat_lit 1)) (nat_lit 18446744073709551616)
noncomputable def mq_o_rsd : mq_Oc := fun as n t env kr kx => mq_pJ as env fun x s e => mq_pI s e fun p s e => (Bool.rec (motive := fun _ => Bool) false (kr (Sum.inl (mq_rsd x p)) n t e) (mq_and (mq_p97 p) (mq_x64 x)))
/-- the value by a small number of the longs from place o on, below place m -/
noncomputable def mq_hor (d : mq_T mq_W) (o x p : Nat) (m : Nat) : Nat → mq_V → (Nat → mq_V → Bool) → Bool := Nat.rec (motive := fun _ => Nat → mq_V → (Nat → mq_V → Bool) → Bool) (fun v e k => k v e) (fun m ih v e k => mq_vJ (mq_get d (Nat.add o m)) e fun y e => (Bool.rec (motive := fun _ => Bool) false (ih (Nat.mod (Nat.add (Nat.mul v x) (mq_rsd y p)) p) e k) (mq_x64 y))) m
noncomputable def mq_o_vby : mq_Oc := fun as n t env kr kx => mq_pA as env fun a s e => mq_pI s e fun x s e => mq_pI s e fun p s e => mq_cA t a fun ty len _ d => (Bool.rec (motive := fun _ => Bool) false (mq_hor d 0 x p len 0 e fun v e => kr (Sum.inl v) n t e) (mq_and (mq_and (mq_p97 p) (Nat.ble x (nat_lit 97))) (mq_and (Nat.beq ty 1) (Nat.ble len (nat_lit 100)))))
noncomputable def mq_rN (t : mq_Ht) (a : Nat) (k : mq_T mq_W → Bool) : Bool := mq_cO t a fun ci fs => (Bool.rec (motive := fun _ => Bool) false (mq_vA (mq_nth mq_U fs 0) [] fun b _ => mq_cA t b fun ty len _ d => (Bool.rec (motive := fun _ => Bool) false (k d) (mq_and (Nat.beq ty 1) (Nat.beq len (nat_lit 91))))) (Nat.beq ci (nat_lit 10)))
noncomputable def mq_r_rest : mq_Oc := fun as n t env kr kx => mq_pA as env fun a s e => mq_pI s e fun r s e => mq_pI s e fun i s e => mq_pI s e fun p s e => mq_rN t a fun d => mq_vJ (mq_get d (Nat.add (Nat.mul r (nat_lit 13)) i)) e fun y e => (Bool.rec (motive := fun _ => Bool) false (kr (Sum.inr (Sum.inr (Sum.inl (mq_rsd y p)))) n t e) (mq_and (mq_and (mq_p97 p) (mq_x64 y)) (mq_and (Nat.ble r (nat_lit 5)) (Nat.ble i (nat_lit 12)))))
noncomputable def mq_r_root : mq_Oc := fun as n t env kr kx => mq_pA as env fun a s e => mq_pI s e fun r s e => mq_pI s e fun x s e => mq_pI s e fun p s e => mq_rN t a fun d => (Bool.rec (motive := fun _ => Bool) false (mq_hor d (Nat.mul r (nat_lit 13)) x p (nat_lit 13) 0 e fun v e => kr (Sum.inl (Bool.rec (motive := fun _ => Nat) 0 (nat_lit 1) (Nat.beq v 0))) n t e) (mq_and (mq_and (mq_p97 p) (Nat.ble x (nat_lit 97))) (Nat.ble r (nat_lit 5))))
noncomputable def mq_r_slot : mq_Oc := fun as n t env kr kx => mq_pI as env fun p s e => mq_pI s e fun i s e => (Bool.rec (motive := fun _ => Bool) false (kr (Sum.inl (Nat.add (Nat.mul p (nat_lit 13)) i)) n t e) (mq_and (Nat.ble p (nat_lit 1000)) (Nat.ble i (nat_lit 1000))))
/-- the greatest place below m, from o on, that holds no 0, and 1 more -/
noncomputable def mq_deg (d : mq_T mq_N) (o : Nat) (m : Nat) : (Nat → Bool) → Bool := Nat.rec (motive := fun _ => (Nat → Bool) → Bool) (fun k => k 0) (fun m ih k => mq_nZ (mq_get d (Nat.add o m)) fun p n => Bool.rec (motive := fun _ => Bool) (ih k) (k (Nat.add m (nat_lit 1))) (Nat.ble (nat_lit 1) (Nat.add p n))) m
noncomputable def mq_r_deg : mq_Oc := fun as n t env kr kx => mq_pA as env fun a s e => mq_pI s e fun p s e => mq_rS t a fun b d => (Bool.rec (motive := fun _ => Bool) false (mq_deg d (Nat.mul p (nat_lit 13)) (nat_lit 13) fun m => kr (Sum.inl (mq_sub32 m 1)) n t e) (Nat.ble p (nat_lit 49)))
/-- the value of a polynomial of the class: from its m-th part down -/
noncomputable def mq_vat (t : mq_Ht) (d : mq_T mq_W) (x : mq_N) (one two : Nat) (m : Nat) : mq_N → (mq_N → Bool) → Bool := Nat.rec (motive := fun _ => mq_N → (mq_N → Bool) → Bool) (fun v k => k v) (fun m ih v k => mq_vA (mq_get d m) [] fun w _ => mq_cW t w fun _ len c => mq_mul v x fun v => mq_add v c fun u => (Bool.rec (motive := fun _ => Bool) false (ih u k) (mq_and (mq_and (mq_ne w one) (mq_ne w two)) (mq_and (mq_fit v (nat_lit 240)) (mq_and (mq_fit u (nat_lit 240)) (Nat.ble len (nat_lit 240))))))) m
noncomputable def mq_o_val : mq_Oc := fun as n t env kr kx => mq_pA as env fun a s e => mq_pA s e fun q s e => mq_pA s e fun w s e => mq_cO t a fun ci fs => mq_cO t q fun cq fq => mq_cW t w fun _ _ x => mq_vA (mq_nth mq_U fs 4) [] fun one _ => mq_vA (mq_nth mq_U fs 5) [] fun two _ => mq_cV t one fun b1 l1 _ => mq_cV t two fun b2 l2 v2 => mq_vA (mq_nth mq_U fq 0) [] fun pa _ => mq_vI (mq_nth mq_U fq 2) e fun dg e => mq_cA t pa fun ty len _ d =>
  (Bool.rec (motive := fun _ => Bool) false (mq_vat t d x one two (mq_add32 dg 1) (Sum.inl (0, 0)) fun v => mq_putW t one b1 l1 v fun t => Bool.rec (motive := fun _ => Bool) (mq_putW t two b2 l2 v fun t => mq_sgn v e fun z e => kr (Sum.inl z) n t e) (mq_sgn v e fun z e => kr (Sum.inl z) n t e) (Nat.beq (mq_add32 dg 1) 0)) (mq_and (mq_and (mq_and (Nat.beq ci 1) (mq_and (Nat.beq ty 5) (Nat.beq cq 3))) (mq_and (Nat.beq l1 (nat_lit 240)) (Nat.beq l2 (nat_lit 240)))) (mq_and (Nat.ble (mq_add32 dg 1) len) (mq_and (mq_ne one two) (mq_and (mq_ne w one) (mq_ne w two))))))
/-- the reference's value: m parts are left, the value and the power so far -/
noncomputable def mq_rva (d : mq_T mq_N) (o : Nat) (x y : mq_N) (m : Nat) : mq_N → mq_N → mq_N → (mq_N → mq_N → mq_N → Bool) → Bool := Nat.rec (motive := fun _ => mq_N → mq_N → mq_N → (mq_N → mq_N → mq_N → Bool) → Bool) (fun v w p k => k v w p) (fun m ih v w p k => mq_mul w y fun w => mq_mul v x fun v => mq_mul (mq_get d (Nat.add o m)) w fun p => mq_add v p fun u => (Bool.rec (motive := fun _ => Bool) false (ih u w p k) (mq_and (mq_and (mq_fit w (nat_lit 300)) (mq_fit v (nat_lit 300))) (mq_and (mq_fit p (nat_lit 300)) (mq_fit u (nat_lit 300)))))) m
noncomputable def mq_r_val : mq_Oc := fun as n t env kr kx => mq_pA as env fun a s e => mq_pI s e fun p s e => mq_rO t a fun b d => (Bool.rec (motive := fun _ => Bool) false (mq_deg d (Nat.mul p (nat_lit 13)) (nat_lit 13) fun m => Bool.rec (motive := fun _ => Bool)
  (mq_rva d (Nat.mul p (nat_lit 13)) (mq_get d (nat_lit 656)) (mq_get d (nat_lit 657)) (Nat.sub m (nat_lit 1)) (mq_get d (Nat.add (Nat.mul p (nat_lit 13)) (Nat.sub m (nat_lit 1)))) (Sum.inl (1, 0)) (mq_get d (nat_lit 652)) fun v w q => mq_setK 10 d (nat_lit 659) v fun d => mq_setK 10 d (nat_lit 660) w fun d => mq_setK 10 d (nat_lit 652) q fun d => mq_hk t b (mq_slots d) fun t => mq_sgn v e fun z e => kr (Sum.inl z) n t e)
  (mq_setK 10 d (nat_lit 659) (Sum.inl (0, 0)) fun d => mq_setK 10 d (nat_lit 660) (Sum.inl (1, 0)) fun d => mq_hk t b (mq_slots d) fun t => kr (Sum.inl 0) n t e) (Nat.beq m 0)) (Nat.ble p (nat_lit 49)))
/-- a method's room for locals, its labels -/
abbrev mq_Md : Type := Sum (Nat × List mq_Y) (Nat × mq_Oc)
noncomputable def mq_loop (ls : List mq_Y) (ks : mq_J) (ca : mq_Ca) (kr : mq_Kr) (kx : mq_Kx) (F : Nat) : mq_J := Nat.rec (motive := fun _ => mq_J) (fun _ _ _ _ _ _ => false) (fun _ ih l => mq_nth mq_none ls l ks ih ca kr kx) F
noncomputable def mq_l0 (as : List mq_W) : List mq_W := List.rec (motive := fun _ => List mq_W) [] (fun w _ ih => cond (or (mq_kd 1 w) (mq_kd 3 w)) (w :: mq_U :: ih) (w :: ih)) as
noncomputable def mq_go1 (ih : mq_Ca) (j nl : Nat) (ls : List mq_Y) : mq_Oc := fun as n t env kr kx => Bool.rec (motive := fun _ => Bool) false (mq_loop ls (fun _ _ _ _ _ _ => false) ih kr kx (nat_lit 1000000) 0 (mq_l0 as) [] n t env) (mq_and (Nat.ble j (nat_lit 1023)) (Nat.ble (mq_len (mq_l0 as)) nl))
noncomputable def mq_go2 (m : mq_Md) : mq_Ca → Nat → mq_Oc := Sum.rec (motive := fun _ => mq_Ca → Nat → mq_Oc) (fun q ih j => Prod.rec (motive := fun _ => mq_Oc) (fun nl ls => mq_go1 ih j nl ls) q) (fun q _ _ => Prod.rec (motive := fun _ => mq_Oc) (fun na f as n t env kr kx => Bool.rec (motive := fun _ => Bool) false (f as n t env kr kx) (Nat.beq (mq_len as) na)) q) m
noncomputable def mq_go (P : mq_T mq_Md) (D : Nat) : mq_Ca := Nat.rec (motive := fun _ => mq_Ca) (fun _ _ _ _ _ _ _ => false) (fun _ ih j as n t env kr kx => mq_go2 (mq_get P j) ih j as n t env kr kx) D
