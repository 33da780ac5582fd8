/-! The reference's constructor, and what it has thrown. -/
section RIN
variable {D pc r1 r2 r3 r4 r5 : Nat} {M : mj_M} {loc : mj_L} {st : List Value} {h : mj_H} {Q : mj_R → Prop}
theorem mj_T.lstj {a n : Nat} (N : Nat → Int) (i z : Int) (hc : M.2.2.2.2.1 pc = some (.lastore, r1, r2, r3, r4, r5)) (ha : h[a]? = some (.inl (1, n, fun j => .long (jl (N j))))) (hi : jr i) (h0 : 0 ≤ i ∧ i < n) (k : mj_T D M (pc + 1) loc st (h.set a (.inl (1, n, fun j => .long (jl (jvu N i.toNat z j))))) Q) : mj_T D M pc loc (.long (jl z) :: .int (jn i) :: .ref a :: st) h Q := by
  refine mj_T.last (g := fun j => jl (N j)) hc ha hi h0 ?_
  have e : (fun j => Value.long (if j = i.toNat then jl z else jl (N j))) = fun j => Value.long (jl (jvu N i.toNat z j)) := funext fun j => by
    unfold jvu
    split <;> rfl
  rw [e]
  exact k
end RIN
def riN : Nat → Int := jvu (jvu (jvu (jvu (jvu (jvu (jvu (fun _ => 0) 0 (-2)) 2 1) 14 (-1)) 16 1) 26 1) 27 (-5)) 28 6
def riS : Nat → Int := fun k => if k = 12 then -1 else 0
theorem riN_1 : ∀ j, j < 91 → -5 ≤ riN j ∧ riN j ≤ 6 ∧ (29 ≤ j → riN j = 0) := by decide
theorem riK : jK 0 (-1) riS riN (fun _ => 0) (fun _ => 0) := by
  refine ⟨⟨fun j hj => ?_, by decide, fun k hk => ?_, fun i j _ hj => ?_⟩, by decide, fun k hk => ?_, by decide, rfl, by decide, fun k => ?_, Or.inl rfl, fun j hj => ?_⟩
  · have := riN_1 j (by omega)
    omega
  · have h1 := (riN_1 (79 + k) (by omega)).2.2 (by omega)
    have h2 := (riN_1 (85 + k) (by omega)).2.2 (by omega)
    omega
  · have : riN 78 = 0 := rfl
    omega
  · have : riS 2 = 0 := rfl
    omega
  · unfold riS
    split
    · exact ⟨by decide, by decide⟩
    · exact ⟨by decide, by decide⟩
  · omega
theorem riV : jV (fun _ => jn 0) (fun _ => 0) := fun s hs => ⟨rfl, by show jn 0 = jn ((jnl 0 : Nat) : Int); rw [jnl_zero]; rfl, fun j hj => by
  have h0 : jnl (0 : Int).natAbs = 0 := jnl_zero
  rw [h0] at hj
  omega, by
  have h0 : jnl (0 : Int).natAbs = 0 := jnl_zero
  rw [h0]
  omega⟩
theorem rp_init {D : Nat} : mj_Ok (D + 2) 174 [.ref 0] [.inr (10, mj_new 10)] (fun r => ∃ h', r = (.inl none, h') ∧ jI 0 (-1) (fun _ => 0) h') := by
  refine mj_Ok.of (M := mj_m174) rfl rfl rfl ?_
  refine mj_T.pl rfl rfl rfl rfl ?_
  refine mj_T.prim rfl rfl rfl ?_
  iterate 31 refine mj_T.pl rfl rfl rfl rfl ?_
  iterate 4 refine mj_T.pl rfl rfl rfl rfl ?_
  refine mj_T.eq (st2 := [.long (jl (-2)), .int (jn 0), .ref 1]) ?_ rfl rfl rfl rfl
  refine mj_T.lstj (fun _ => 0) 0 (-2) rfl rfl ⟨by decide, by decide⟩ ⟨by decide, by decide⟩ ?_
  iterate 4 refine mj_T.pl rfl rfl rfl rfl ?_
  refine mj_T.eq (st2 := [.long (jl (1)), .int (jn 2), .ref 1]) ?_ rfl rfl rfl rfl
  refine mj_T.lstj (jvu (fun _ => 0) 0 (-2)) 2 (1) rfl rfl ⟨by decide, by decide⟩ ⟨by decide, by decide⟩ ?_
  iterate 4 refine mj_T.pl rfl rfl rfl rfl ?_
  refine mj_T.eq (st2 := [.long (jl (-1)), .int (jn 14), .ref 1]) ?_ rfl rfl rfl rfl
  refine mj_T.lstj (jvu (jvu (fun _ => 0) 0 (-2)) 2 (1)) 14 (-1) rfl rfl ⟨by decide, by decide⟩ ⟨by decide, by decide⟩ ?_
  iterate 4 refine mj_T.pl rfl rfl rfl rfl ?_
  refine mj_T.eq (st2 := [.long (jl (1)), .int (jn 16), .ref 1]) ?_ rfl rfl rfl rfl
  refine mj_T.lstj (jvu (jvu (jvu (fun _ => 0) 0 (-2)) 2 (1)) 14 (-1)) 16 (1) rfl rfl ⟨by decide, by decide⟩ ⟨by decide, by decide⟩ ?_
  iterate 4 refine mj_T.pl rfl rfl rfl rfl ?_
  refine mj_T.eq (st2 := [.long (jl (1)), .int (jn 26), .ref 1]) ?_ rfl rfl rfl rfl
  refine mj_T.lstj (jvu (jvu (jvu (jvu (fun _ => 0) 0 (-2)) 2 (1)) 14 (-1)) 16 (1)) 26 (1) rfl rfl ⟨by decide, by decide⟩ ⟨by decide, by decide⟩ ?_
  iterate 4 refine mj_T.pl rfl rfl rfl rfl ?_
  refine mj_T.eq (st2 := [.long (jl (-5)), .int (jn 27), .ref 1]) ?_ rfl rfl rfl rfl
  refine mj_T.lstj (jvu (jvu (jvu (jvu (jvu (fun _ => 0) 0 (-2)) 2 (1)) 14 (-1)) 16 (1)) 26 (1)) 27 (-5) rfl rfl ⟨by decide, by decide⟩ ⟨by decide, by decide⟩ ?_
  iterate 4 refine mj_T.pl rfl rfl rfl rfl ?_
  refine mj_T.eq (st2 := [.long (jl (6)), .int (jn 28), .ref 1]) ?_ rfl rfl rfl rfl
  refine mj_T.lstj (jvu (jvu (jvu (jvu (jvu (jvu (fun _ => 0) 0 (-2)) 2 (1)) 14 (-1)) 16 (1)) 26 (1)) 27 (-5)) 28 (6) rfl rfl ⟨by decide, by decide⟩ ⟨by decide, by decide⟩ ?_
  have hs : ∀ L : mj_H, L = rH riS riN (fun _ => 0) (fun _ => 0) (fun _ => 0) → rS riS riN (fun _ => 0) (fun _ => 0) (fun _ => 0) (fun _ => 0) L := fun L hL => ⟨fun _ => jn 0, fun _ => .int (jn 0), fun _ => .int (jn 0), riV, hL⟩
  refine mj_T.eq (h2 := rH riS riN (fun _ => 0) (fun _ => 0) (fun _ => 0)) ?_ rfl rfl rfl rfl
  have hs0 := hs _ rfl
  generalize rH riS riN (fun _ => 0) (fun _ => 0) (fun _ => 0) = h at hs0
  iterate 3 refine mj_T.pl rfl rfl rfl rfl ?_
  refine mj_T.call (ins := .invokevirtual 45) rfl rfl (Nat.le_of_ble_eq_true rfl) (Nat.le_of_ble_eq_true rfl) (by simp [mj_recv, rS_f hs0]) rfl (jS_sets (D := D) (rG riS riN (fun _ => 0) (fun _ => 0) (fun _ => 0)) (s := 650) (v := 0) (by decide) ⟨by decide, by decide⟩ hs0) (fun v' h1 hq' => ?_) (fun i h' hq' => by obtain ⟨_, _, h⟩ := hq'; cases h)
  obtain ⟨_, hs1, hq'⟩ := hq'
  cases hq'
  iterate 3 refine mj_T.pl rfl rfl rfl rfl ?_
  refine mj_T.call (ins := .invokevirtual 45) rfl rfl (Nat.le_of_ble_eq_true rfl) (Nat.le_of_ble_eq_true rfl) (by simp [mj_recv, jS_a (rG riS riN (fun _ => 0) (fun _ => 0) (fun _ => 0)) hs1]) rfl (jS_sets (D := D) (rG riS riN (fun _ => 0) (fun _ => 0) (fun _ => 0)) (s := 651) (v := 1) (by decide) ⟨by decide, by decide⟩ hs1) (fun v' h2 hq' => ?_) (fun i h' hq' => by obtain ⟨_, _, h⟩ := hq'; cases h)
  obtain ⟨_, hs2, hq'⟩ := hq'
  cases hq'
  exact mj_T.ret rfl rfl rfl ⟨h2, rfl, ⟨_, _, _, _, _, hs2, riK⟩⟩
