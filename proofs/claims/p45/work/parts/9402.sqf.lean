/-! The simple part of a polynomial has no factor twice, and every root of what it leaves out. -/
theorem least {P : Nat → Prop} (h : ∃ n, P n) : ∃ n, P n ∧ ∀ m, m < n → ¬ P m := by
  obtain ⟨n, hn⟩ := h
  induction n using Nat.strongRecOn with
  | ind n ih =>
    by_cases c : ∃ m, m < n ∧ P m
    · obtain ⟨m, hm, q⟩ := c
      exact ih m hm q
    · exact ⟨n, hn, fun m hm q => c ⟨m, hm, q⟩⟩
theorem qdv.deg {D G : pz_P} {dd dg : Nat} (hD : pz_lt D (dd + 1)) (hD0 : D dd ≠ 0) (hG : pz_lt G (dg + 1)) (hG0 : G dg ≠ 0) (h : qdv D G) : dd ≤ dg := by
  obtain ⟨c, T, N, hc, hT, e⟩ := h
  obtain ⟨ds, h1, _⟩ := pz_mul_deg (A := pz_sc c G) (m := dg) (hG.sc c) (Int.mul_ne_zero hc hG0) hD hD0 hT e
  omega
theorem pz_0_add (R : pz_P) : pz_add pz_0 R = R := funext fun i => Int.zero_add _
theorem pdiv {D : pz_P} {dD : Nat} (hD : pz_lt D (dD + 1)) (hl : D dD ≠ 0) : ∀ (n : Nat) (X : pz_P), pz_lt X n → ∃ (c : Int) (Q R : pz_P) (N : Nat), c ≠ 0 ∧ pz_lt Q N ∧ pz_lt R dD ∧ pz_sc c X = pz_add (pz_mul Q D) R
  | 0, X, h => ⟨1, pz_0, X, 0, by decide, fun _ _ => rfl, h.mono (Nat.zero_le _), by rw [pz_mul_0L, pz_sc_one, pz_0_add]⟩
  | n + 1, X, h => by
    rcases Nat.lt_or_ge n dD with c | c
    · exact ⟨1, pz_0, X, 0, by decide, fun _ _ => rfl, h.mono (by omega), by rw [pz_mul_0L, pz_sc_one, pz_0_add]⟩
    · obtain ⟨M, hM⟩ : ∃ M, M = pz_mono (n - dD) (X n) := ⟨_, rfl⟩
      have hm : ∀ i, pz_mul M D i = if n - dD ≤ i then X n * D (i - (n - dD)) else 0 := fun i => by
        rw [hM]
        exact pz_mono_mul (X n) D (n - dD) i
      have hMl : pz_lt M (n - dD + 1) := fun i hi => by
        rw [hM]
        exact if_neg (by omega)
      obtain ⟨c2, Q, R, N, hc, hQ, hR, e⟩ := pdiv hD hl n (pz_add (pz_sc (D dD) X) (pz_sc (-1) (pz_mul M D))) (fun i hi => by
        show D dD * X i + -1 * pz_mul M D i = 0
        rw [hm i, if_pos (by omega)]
        by_cases q : i = n
        · rw [q, show n - (n - dD) = dD by omega, Int.mul_comm (X n)]
          omega
        · rw [h i (by omega), hD (i - (n - dD)) (by omega), Int.mul_zero, Int.mul_zero]
          rfl)
      refine ⟨c2 * D dD, pz_add Q (pz_sc c2 M), R, N + (n - dD + 1), Int.mul_ne_zero hc hl, pz_lt.add (hQ.mono (by omega)) ((hMl.sc c2).mono (by omega)), hR, funext fun i => ?_⟩
      have ei := congrFun e i
      rw [pz_mul_addL, pz_mul_scL]
      show c2 * D dD * X i = (pz_mul Q D i + c2 * pz_mul M D i) + R i
      have ei : c2 * (D dD * X i + -1 * pz_mul M D i) = pz_mul Q D i + R i := ei
      rw [Int.mul_add, ← Int.mul_assoc] at ei
      have e2 : c2 * (-1 * pz_mul M D i) = -(c2 * pz_mul M D i) := by
        rw [Int.neg_mul, Int.one_mul, Int.mul_neg]
      omega
theorem bez {X Y : pz_P} {N : Nat} (hX : pz_lt X N) (hY : pz_lt Y N) (h0 : X ≠ pz_0) : ∃ (Z u v : pz_P) (n dz : Nat), pz_lt u n ∧ pz_lt v n ∧ Z = pz_add (pz_mul u X) (pz_mul v Y) ∧ pz_lt Z (dz + 1) ∧ Z dz ≠ 0 ∧ qdv Z X ∧ qdv Z Y := by
  obtain ⟨dx, _, hx1, hx2⟩ := kq_deg N X hX h0
  have ex : ∃ dz : Nat, ∃ (Z u v : pz_P) (n : Nat), pz_lt u n ∧ pz_lt v n ∧ Z = pz_add (pz_mul u X) (pz_mul v Y) ∧ pz_lt Z (dz + 1) ∧ Z dz ≠ 0 := ⟨dx, X, pz_one, pz_0, 1, fun i hi => if_neg (by omega), fun _ _ => rfl, by rw [pz_one_mul, pz_mul_0L]; funext i; show X i = X i + 0; omega, hx1, hx2⟩
  obtain ⟨dz, ⟨Z, u, v, n, hu, hv, hZ, z1, z2⟩, hmin⟩ := least ex
  have go : ∀ (W a b : pz_P) (k : Nat), pz_lt a k → pz_lt b k → W = pz_add (pz_mul a X) (pz_mul b Y) → pz_lt W (k + N) → qdv Z W := fun W a b k ha hb hW hl => by
    obtain ⟨c, Q, R, K, hc, hQ, hR, e⟩ := pdiv z1 z2 (k + N) W hl
    by_cases r0 : R = pz_0
    · refine ⟨c, Q, K, hc, hQ, ?_⟩
      rw [e, r0]
      funext i
      show _ + 0 = _
      rw [Int.add_zero]
    · exfalso
      obtain ⟨dr, r1, r2, r3⟩ := kq_deg dz R hR r0
      refine hmin dr r1 ⟨R, pz_add (pz_sc c a) (pz_sc (-1) (pz_mul Q u)), pz_add (pz_sc c b) (pz_sc (-1) (pz_mul Q v)), k + (K + n), pz_lt.add ((ha.sc c).mono (by omega)) (((pz_lt.mul hQ hu (c := K + n) (by omega)).sc (-1)).mono (by omega)), pz_lt.add ((hb.sc c).mono (by omega)) (((pz_lt.mul hQ hv (c := K + n) (by omega)).sc (-1)).mono (by omega)), funext fun i => ?_, r2, r3⟩
      have ei := congrFun e i
      rw [hW, hZ, pz_mul_addR, ← pz_mul_assoc, ← pz_mul_assoc] at ei
      have ei : c * (pz_mul a X i + pz_mul b Y i) = (pz_mul (pz_mul Q u) X i + pz_mul (pz_mul Q v) Y i) + R i := ei
      rw [pz_mul_addL, pz_mul_addL, pz_mul_scL, pz_mul_scL, pz_mul_scL, pz_mul_scL]
      show R i = (c * pz_mul a X i + -1 * pz_mul (pz_mul Q u) X i) + (c * pz_mul b Y i + -1 * pz_mul (pz_mul Q v) Y i)
      rw [Int.mul_add] at ei
      omega
  refine ⟨Z, u, v, n, dz, hu, hv, hZ, z1, z2, go X pz_one pz_0 1 (fun i hi => if_neg (by omega)) (fun _ _ => rfl) (by rw [pz_one_mul, pz_mul_0L]; funext i; show X i = X i + 0; omega) (hX.mono (by omega)), go Y pz_0 pz_one 1 (fun _ _ => rfl) (fun i hi => if_neg (by omega)) (by rw [pz_one_mul, pz_mul_0L, pz_0_add]) (hY.mono (by omega))⟩
theorem drv_c : ∀ (n : Nat) (u f : pz_P), pz_c (n + 1) u f * ((n + 1 : Nat) : Int) = pz_c n (drv u) f + pz_c n u (drv f)
  | 0, u, f => by
    show (u 0 * f 1 + u 1 * f 0) * ((0 + 1 : Nat) : Int) = u 1 * ((0 + 1 : Nat) : Int) * f 0 + u 0 * (f 1 * ((0 + 1 : Nat) : Int))
    rw [show ((0 + 1 : Nat) : Int) = 1 from rfl, Int.mul_one, Int.mul_one, Int.mul_one]
    omega
  | n + 1, u, f => by
    have ih := drv_c n (pz_tl u) f
    rw [drv_tl u, pz_c_addL]
    have e1 : pz_c (n + 1) (psh (drv (pz_tl u))) f = pz_c n (drv (pz_tl u)) f := by
      show 0 * f (n + 1) + pz_c n (pz_tl (psh (drv (pz_tl u)))) f = _
      rw [Int.zero_mul, Int.zero_add]
      rfl
    have e2 : pz_c (n + 1) u (drv f) = u 0 * (f (n + 2) * ((n + 2 : Nat) : Int)) + pz_c n (pz_tl u) (drv f) := rfl
    have e3 : pz_c (n + 1 + 1) u f = u 0 * f (n + 2) + pz_c (n + 1) (pz_tl u) f := rfl
    rw [e1, e2, e3, show ((n + 1 + 1 : Nat) : Int) = ((n + 1 : Nat) : Int) + 1 by omega, Int.add_mul, Int.mul_add (pz_c (n + 1) (pz_tl u) f), ih, Int.mul_one, Int.mul_assoc]
    omega
theorem drv_mul (u f : pz_P) : drv (pz_mul u f) = pz_add (pz_mul (drv u) f) (pz_mul u (drv f)) := funext fun n => drv_c n u f
theorem drv_lt {u : pz_P} {n : Nat} (h : pz_lt u (n + 1)) : pz_lt (drv u) n := fun i hi => by
  show u (i + 1) * _ = 0
  rw [h (i + 1) (by omega), Int.zero_mul]
def hpw (D : pz_P) : Nat → pz_P
  | 0 => pz_one
  | j + 1 => pz_mul D (hpw D j)
theorem hpw_deg {D : pz_P} {dd : Nat} (hD : pz_lt D (dd + 1)) (h0 : D dd ≠ 0) : ∀ j, pz_lt (hpw D j) (j * dd + 1) ∧ hpw D j (j * dd) ≠ 0
  | 0 => ⟨fun i hi => if_neg (by omega), by rw [Nat.zero_mul]; show (if 0 = 0 then (1 : Int) else 0) ≠ 0; decide⟩
  | j + 1 => by
    obtain ⟨a, b⟩ := hpw_deg hD h0 j
    rw [Nat.add_mul, Nat.one_mul, Nat.add_comm (j * dd) dd]
    refine ⟨pz_lt.mul hD a (by omega), ?_⟩
    have := pz_c_lead dd D (hpw D j) (j * dd) hD a
    show pz_c (dd + j * dd) D (hpw D j) ≠ 0
    rw [this]
    exact Int.mul_ne_zero h0 b
theorem drv_one : drv pz_one = pz_0 := funext fun i => by
  show (if i + 1 = 0 then (1 : Int) else 0) * _ = 0
  rw [if_neg (by omega), Int.zero_mul]
theorem pz_mul_0R (f : pz_P) : pz_mul f pz_0 = pz_0 := by rw [pz_mul_comm, pz_mul_0L]
theorem hpw_dv (D : pz_P) : ∀ j : Nat, pz_mul D (drv (hpw D j)) = pz_sc (j : Int) (pz_mul (drv D) (hpw D j))
  | 0 => by
    show pz_mul D (drv pz_one) = _
    rw [drv_one, pz_mul_0R]
    funext i
    exact (Int.zero_mul _).symm
  | j + 1 => by
    have ih := hpw_dv D j
    have e1 : hpw D (j + 1) = pz_mul D (hpw D j) := rfl
    rw [e1, drv_mul, pz_mul_addR, ih, pz_mul_scR]
    have e2 : pz_mul D (pz_mul (drv D) (hpw D j)) = pz_mul (drv D) (pz_mul D (hpw D j)) := by
      rw [← pz_mul_assoc, pz_mul_comm D (drv D), pz_mul_assoc]
    rw [e2]
    funext i
    show pz_mul (drv D) (pz_mul D (hpw D j)) i + (j : Int) * pz_mul (drv D) (pz_mul D (hpw D j)) i = ((j + 1 : Nat) : Int) * pz_mul (drv D) (pz_mul D (hpw D j)) i
    rw [show ((j + 1 : Nat) : Int) = (j : Int) + 1 by omega, Int.add_mul, Int.one_mul]
    omega
theorem pz_mul_z {A W : pz_P} {N dw : Nat} (hA : pz_lt A N) (hW : pz_lt W (dw + 1)) (h0 : W dw ≠ 0) (h : pz_mul A W = pz_0) : A = pz_0 := by
  by_cases c : A = pz_0
  · exact c
  · exfalso
    obtain ⟨da, _, a1, a2⟩ := kq_deg N A hA c
    have := pz_c_lead da A W dw a1 hW
    have e : pz_mul A W (da + dw) = 0 := by rw [h]; rfl
    have e : pz_c (da + dw) A W = 0 := e
    rw [this] at e
    exact absurd e (Int.mul_ne_zero a2 h0)
theorem pz_cancel {A B W : pz_P} {N dw : Nat} (hA : pz_lt A N) (hB : pz_lt B N) (hW : pz_lt W (dw + 1)) (h0 : W dw ≠ 0) (h : pz_mul A W = pz_mul B W) : A = B := by
  have e : pz_add A (pz_sc (-1) B) = pz_0 := pz_mul_z (hA.add (hB.sc (-1))) hW h0 (by
    rw [pz_mul_addL, pz_mul_scL, h]
    funext i
    show _ + -1 * _ = 0
    omega)
  funext i
  have := congrFun e i
  have : A i + -1 * B i = 0 := this
  omega
theorem qdv_mulself {D T : pz_P} {N : Nat} (hT : pz_lt T N) : qdv D (pz_mul T D) := (qdv.rf D).mul hT
theorem qdv.comm {D X Y : pz_P} (h : qdv D (pz_mul X Y)) : qdv D (pz_mul Y X) := by rwa [pz_mul_comm]
theorem qdv.sub {D X Y : pz_P} (h : qdv D (pz_add X Y)) (k : qdv D Y) : qdv D X := by
  have := h.add (k.sc (-1))
  have e : pz_add (pz_add X Y) (pz_sc (-1) Y) = X := funext fun i => by
    show X i + Y i + -1 * Y i = X i
    omega
  rwa [e] at this
section SQF
variable {P S G : pz_P} {dg ds : Nat}
theorem sqf (g : GP P (drv P) G dg) (e : P = pz_mul S G) (hS : pz_lt S (ds + 1)) (hS0 : S ds ≠ 0) {dd : Nat} {D : pz_P} (hD : pz_lt D (dd + 1)) (hD0 : D dd ≠ 0) (h1 : qdv D S) (h2 : qdv D (drv S)) : dd = 0 := by
  rcases Nat.eq_zero_or_pos dd with c | c
  · exact c
  exfalso
  have ex : ∃ dd : Nat, 1 ≤ dd ∧ ∃ D : pz_P, pz_lt D (dd + 1) ∧ D dd ≠ 0 ∧ qdv D S ∧ qdv D (drv S) := ⟨dd, c, D, hD, hD0, h1, h2⟩
  obtain ⟨dd, ⟨hd1, D, hD, hD0, h1, h2⟩, hmin⟩ := least ex
  have hDne : D ≠ pz_0 := fun q => hD0 (by rw [q]; rfl)
  obtain ⟨Z, u, v, n, dz, hu, hv, hZ, z1, z2, q1, q2⟩ := bez hD ((drv_lt hD).mono (by omega)) hDne
  have hdd : pz_lt (drv D) (dd - 1 + 1) := (drv_lt hD).mono (by omega)
  have hdd0 : drv D (dd - 1) ≠ 0 := by
    show D (dd - 1 + 1) * ((dd - 1 + 1 : Nat) : Int) ≠ 0
    rw [show dd - 1 + 1 = dd by omega]
    exact Int.mul_ne_zero hD0 (by omega)
  have hz := qdv.deg z1 z2 hdd hdd0 q2
  have dz0 : dz = 0 := by
    rcases Nat.eq_zero_or_pos dz with c | c
    · exact c
    · exact absurd ⟨c, Z, z1, z2, q1.tr h1, q1.tr h2⟩ (hmin dz (by omega))
  subst dz0
  -- D twice in S
  obtain ⟨s, T, nT, hs, hT, eT⟩ := h1
  have d1 : pz_sc s (drv S) = pz_add (pz_mul (drv T) D) (pz_mul T (drv D)) := by rw [← drv_sc, eT, drv_mul]
  have hdT : pz_lt (drv T) nT := drv_lt (hT.mono (by omega))
  have h3 : qdv D (pz_mul T (drv D)) := by
    have a := h2.sc s
    rw [d1] at a
    have b : pz_add (pz_mul (drv T) D) (pz_mul T (drv D)) = pz_add (pz_mul T (drv D)) (pz_mul (drv T) D) := funext fun i => Int.add_comm _ _
    rw [b] at a
    exact a.sub (qdv_mulself hdT)
  have hTD : qdv D T := by
    -- Z T = u D T + v D' T, Z a constant
    have a1 : qdv D (pz_mul Z T) := by
      rw [hZ, pz_mul_addL]
      refine qdv.add ?_ ?_
      · rw [pz_mul_assoc]
        refine qdv.mul ?_ hu
        rw [pz_mul_comm]
        exact qdv_mulself hT
      · rw [pz_mul_assoc]
        exact (qdv.comm h3).mul hv
    have a2 : pz_mul Z T = pz_sc (Z 0) T := funext fun i => by
      show pz_c i Z T = Z 0 * T i
      rw [pz_c_zs, zs_one (p := 0) (by omega) (fun j hj hn => by rw [z1 j (by omega), Int.zero_mul]), Nat.sub_zero]
    rw [a2] at a1
    exact a1.un z2
  obtain ⟨t, T2, n2, ht, hT2, eT2⟩ := hTD
  have e2 : pz_sc (t * s) S = pz_mul T2 (pz_mul D D) := by rw [← pz_sc_sc, eT, ← pz_mul_scL, eT2, pz_mul_assoc]
  -- so every power of D divides G
  have all : ∀ j, qdv (hpw D j) G := by
    intro j
    induction j with
    | zero => exact ⟨1, G, dg + 1, by decide, fun i hi => g.2.2.1 i (by omega), by rw [pz_sc_one, pz_mul_comm]; exact (pz_one_mul G).symm⟩
    | succ j ih =>
      obtain ⟨c, K, nK, hc, hK, eK⟩ := ih
      obtain ⟨W, hW⟩ : ∃ W, W = hpw D j := ⟨_, rfl⟩
      have hWd := hpw_dv D j
      rw [← hW] at eK hWd
      obtain ⟨Y, hY⟩ : ∃ Y, Y = pz_mul T2 K := ⟨_, rfl⟩
      have hYl : pz_lt Y (n2 + nK) := by
        rw [hY]
        exact pz_lt.mul hT2 hK (by omega)
      have eP : pz_sc (t * s * c) P = pz_mul Y (pz_mul D (pz_mul D W)) := by
        rw [e, ← pz_sc_sc, ← pz_mul_scR, ← pz_mul_scL, e2, eK, hY]
        simp only [pz_mul_assoc]
        rw [pz_mul_comm D (pz_mul D (pz_mul K W)), pz_mul_assoc D (pz_mul K W) D, pz_mul_assoc K W D, ← pz_mul_assoc D K, pz_mul_comm D K, pz_mul_assoc K D, pz_mul_comm W D]
      have hcc : t * s * c ≠ 0 := Int.mul_ne_zero (Int.mul_ne_zero ht hs) hc
      have hDl : pz_lt D (dd + 1) := hD
      have hdD : pz_lt (drv D) (dd + 1) := (drv_lt hD).mono (by omega)
      have hdY : pz_lt (drv Y) (n2 + nK) := drv_lt (hYl.mono (by omega))
      have b0 : qdv (pz_mul D W) (pz_mul D W) := qdv.rf _
      have k1 : qdv (pz_mul D W) P := by
        refine qdv.un hcc ?_
        rw [eP]
        exact ((b0.mul hDl).mul hYl)
      have k2 : qdv (pz_mul D W) (drv P) := by
        refine qdv.un hcc ?_
        rw [← drv_sc, eP, drv_mul, drv_mul, drv_mul, pz_mul_addR]
        refine qdv.add ((b0.mul hDl).mul hdY) ?_
        rw [pz_mul_addR]
        refine qdv.add ((b0.mul hdD).mul hYl) (qdv.mul ?_ hYl)
        refine qdv.add ?_ ?_
        · have e5 : pz_mul D (pz_mul (drv D) W) = pz_mul (drv D) (pz_mul D W) := by
            rw [← pz_mul_assoc, pz_mul_comm D (drv D), pz_mul_assoc]
          rw [e5]
          exact b0.mul hdD
        · rw [hWd, pz_mul_scR]
          have e5 : pz_mul D (pz_mul (drv D) W) = pz_mul (drv D) (pz_mul D W) := by
            rw [← pz_mul_assoc, pz_mul_comm D (drv D), pz_mul_assoc]
          rw [e5]
          exact (b0.mul hdD).sc _
      have k3 := g.2.2.2.2.2 _ k1 k2
      show qdv (pz_mul D (hpw D j)) G
      rw [← hW]
      exact k3
  have hG0 : G dg ≠ 0 := by have := g.2.1; omega
  obtain ⟨w1, w2⟩ := hpw_deg hD hD0 (dg + 1)
  have := qdv.deg w1 w2 (fun i hi => g.2.2.1 i (by omega)) hG0 (all (dg + 1))
  have h9 : dg + 1 ≤ (dg + 1) * dd := Nat.le_mul_of_pos_right _ hd1
  omega
end SQF
/-! Roots. -/
def vn (p q : Int) (X : pz_P) : Prop := ∀ n, pz_lt X n → hz n X p q = 0
section VN
variable {p q : Int} {X Y : pz_P} {n m : Nat}
theorem vn_of (hq : q ≠ 0) (hX : pz_lt X n) (h : hz n X p q = 0) : vn p q X := fun m hm => by
  rcases Nat.le_total n m with c | c
  · rw [show m = n + (m - n) by omega, hz_more n (m - n) X p q hX, h, Int.mul_zero]
  · have e := hz_more m (n - m) X p q hm
    rw [show m + (n - m) = n by omega, h] at e
    rcases Int.mul_eq_zero.mp e.symm with z | z
    · exact absurd z (Int.pow_ne_zero hq)
    · exact z
theorem vn.mulL (hq : q ≠ 0) (h : vn p q X) (hX : pz_lt X n) (hY : pz_lt Y m) : vn p q (pz_mul X Y) := vn_of hq (pz_lt.mul hX hY (c := n + m) (by omega)) (by rw [hz_mul n m X Y p q hX hY, h n hX, Int.zero_mul, Int.mul_zero])
theorem vn_mul (hq : q ≠ 0) (hX : pz_lt X n) (hY : pz_lt Y m) (h : vn p q (pz_mul X Y)) : vn p q X ∨ vn p q Y := by
  have e := h (n + m) (pz_lt.mul hX hY (c := n + m) (by omega))
  rw [hz_mul n m X Y p q hX hY] at e
  rcases Int.mul_eq_zero.mp e with z | z
  · exact absurd z hq
  · rcases Int.mul_eq_zero.mp z with z | z
    · exact Or.inl (vn_of hq hX z)
    · exact Or.inr (vn_of hq hY z)
theorem vn.add (hq : q ≠ 0) (h : vn p q X) (k : vn p q Y) (hX : pz_lt X n) (hY : pz_lt Y n) : vn p q (pz_add X Y) := vn_of hq (hX.add hY) (by rw [hz_add, h n hX, k n hY]; rfl)
theorem vn.sc (h : vn p q X) (c : Int) (hq : q ≠ 0) (hX : pz_lt X n) : vn p q (pz_sc c X) := vn_of hq (hX.sc c) (by rw [hz_sc, h n hX, Int.mul_zero])
theorem vn.un {c : Int} (hc : c ≠ 0) (hq : q ≠ 0) (hX : pz_lt X n) (h : vn p q (pz_sc c X)) : vn p q X := vn_of hq hX (by
  have e := h n (hX.sc c)
  rw [hz_sc] at e
  rcases Int.mul_eq_zero.mp e with z | z
  · exact absurd z hc
  · exact z)
end VN
def lnP (p q : Int) : pz_P := fun i => if i = 0 then -p else if i = 1 then q else 0
theorem lnP_lt (p q : Int) : pz_lt (lnP p q) (1 + 1) := fun i hi => by
  unfold lnP
  rw [if_neg (by omega), if_neg (by omega)]
theorem lnP_v {p q : Int} (hq : q ≠ 0) : vn p q (lnP p q) := vn_of hq (lnP_lt p q) (by
  show -p * q ^ 1 + p * (q * q ^ 0 + p * 0) = 0
  rw [Int.pow_zero, Int.mul_one, Int.mul_zero, Int.add_zero, Int.pow_one, Int.neg_mul]
  omega)
theorem lin_fac {p q : Int} (hq : q ≠ 0) {K : pz_P} {n : Nat} (hK : pz_lt K n) (h : vn p q K) : qdv (lnP p q) K := by
  obtain ⟨c, Q, R, N, hc, hQ, hR, e⟩ := pdiv (lnP_lt p q) (show lnP p q 1 ≠ 0 from hq) n K hK
  have a1 := h.sc c hq hK
  rw [e] at a1
  have a2 : vn p q (pz_mul Q (lnP p q)) := by
    rw [pz_mul_comm]
    exact (lnP_v hq).mulL hq (lnP_lt p q) hQ
  have lQ : pz_lt (pz_mul Q (lnP p q)) (N + 2) := pz_lt.mul hQ (lnP_lt p q) (by omega)
  have a3 : vn p q R := by
    have b := a1.add hq (a2.sc (-1) hq lQ) (n := N + 2) (lQ.add (hR.mono (by omega))) (lQ.sc (-1))
    have eb : pz_add (pz_add (pz_mul Q (lnP p q)) R) (pz_sc (-1) (pz_mul Q (lnP p q))) = R := funext fun i => by
      show _ + R i + -1 * _ = R i
      omega
    rwa [eb] at b
  have r0 : R 0 = 0 := by
    have := a3 1 hR
    rw [hz_s, Int.pow_zero] at this
    have : R 0 * 1 + p * 0 = 0 := this
    omega
  refine ⟨c, Q, N, hc, hQ, ?_⟩
  rw [e]
  funext i
  have : R i = 0 := by
    rcases Nat.eq_zero_or_pos i with z | z
    · rw [z]
      exact r0
    · exact hR i z
  show _ + R i = _
  rw [this, Int.add_zero]
theorem rootG {P S G : pz_P} {dg ds : Nat} (g : GP P (drv P) G dg) (e : P = pz_mul S G) (hS : pz_lt S (ds + 1)) {p q : Int} (hq : q ≠ 0) (h0 : vn p q G) : vn p q S := by
  by_cases hSv : vn p q S
  · exact hSv
  exfalso
  obtain ⟨L, hL⟩ : ∃ L, L = lnP p q := ⟨_, rfl⟩
  have hLl : pz_lt L 2 := by rw [hL]; exact lnP_lt p q
  have hLv : vn p q L := by rw [hL]; exact lnP_v hq
  have hGl : pz_lt G (dg + 1) := fun i hi => g.2.2.1 i (by omega)
  obtain ⟨T, nT, hT, eT⟩ := g.2.2.2.2.1
  have all : ∀ j, qdv (hpw L j) G := by
    intro j
    induction j with
    | zero => exact ⟨1, G, dg + 1, by decide, hGl, by rw [pz_sc_one, pz_mul_comm]; exact (pz_one_mul G).symm⟩
    | succ j ih =>
      obtain ⟨c, K, nK, hc, hK, eK⟩ := ih
      have hKv : vn p q K := by
        rcases Nat.eq_zero_or_pos j with c0 | c0
        · subst c0
          have e1 : pz_sc c G = K := by
            rw [eK, pz_mul_comm]
            exact pz_one_mul K
          rw [← e1]
          exact h0.sc c hq hGl
        · obtain ⟨W, hW⟩ : ∃ W, W = hpw L j := ⟨_, rfl⟩
          have hWd := hpw_dv L j
          obtain ⟨w1, w2⟩ := hpw_deg (dd := 1) hLl (by rw [hL]; exact hq) j
          rw [← hW] at eK hWd w1 w2
          obtain ⟨Y, hY⟩ : ∃ Y, Y = pz_mul S K := ⟨_, rfl⟩
          have hYl : pz_lt Y (ds + 1 + nK) := by
            rw [hY]
            exact pz_lt.mul hS hK (by omega)
          have hdY : pz_lt (drv Y) (ds + 1 + nK) := drv_lt (hYl.mono (by omega))
          have hdL : pz_lt (drv L) 1 := drv_lt hLl
          have e1 : pz_sc c P = pz_mul Y W := by rw [e, ← pz_mul_scR, eK, hY, pz_mul_assoc]
          have e2 : pz_mul L (pz_sc c (drv P)) = pz_mul (pz_add (pz_mul L (drv Y)) (pz_sc (j : Int) (pz_mul Y (drv L)))) W := by
            rw [← drv_sc, e1, drv_mul, pz_mul_addR, pz_mul_addL, pz_mul_assoc, pz_mul_scL]
            congr 1
            rw [← pz_mul_assoc, pz_mul_comm L Y, pz_mul_assoc, hWd, pz_mul_scR, pz_mul_assoc]
          have e3 : pz_mul L (pz_sc c (drv P)) = pz_mul (pz_mul L (pz_mul T K)) W := by
            rw [eT, ← pz_mul_scR, eK, pz_mul_assoc, pz_mul_assoc]
          have hTK : pz_lt (pz_mul T K) (nT + nK) := pz_lt.mul hT hK (by omega)
          have lA : pz_lt (pz_mul L (pz_mul T K)) (2 + (nT + nK)) := pz_lt.mul hLl hTK (by omega)
          have lB1 : pz_lt (pz_mul L (drv Y)) (2 + (ds + 1 + nK)) := pz_lt.mul hLl hdY (by omega)
          have lB2 : pz_lt (pz_mul Y (drv L)) (ds + 1 + nK + 1) := pz_lt.mul hYl hdL (by omega)
          have e4 := pz_cancel (N := 2 + (nT + nK) + (2 + (ds + 1 + nK))) (lA.mono (by omega)) (pz_lt.add (lB1.mono (by omega)) ((lB2.sc (j : Int)).mono (by omega))) w1 w2 (e3.symm.trans e2)
          have v1 : vn p q (pz_mul L (pz_mul T K)) := hLv.mulL hq hLl hTK
          have v2 : vn p q (pz_mul L (drv Y)) := hLv.mulL hq hLl hdY
          rw [e4] at v1
          have v3 : vn p q (pz_sc (j : Int) (pz_mul Y (drv L))) := by
            have b := v1.add hq (v2.sc (-1) hq lB1) (n := 2 + (ds + 1 + nK)) (pz_lt.add lB1 ((lB2.sc (j : Int)).mono (by omega))) (lB1.sc (-1))
            have eb : pz_add (pz_add (pz_mul L (drv Y)) (pz_sc (j : Int) (pz_mul Y (drv L)))) (pz_sc (-1) (pz_mul L (drv Y))) = pz_sc (j : Int) (pz_mul Y (drv L)) := funext fun i => by
              show _ + _ + -1 * _ = _
              omega
            rwa [eb] at b
          have v4 := vn.un (show (j : Int) ≠ 0 by omega) hq lB2 v3
          rcases vn_mul hq hYl hdL v4 with z | z
          · rw [hY] at z
            rcases vn_mul hq hS hK z with z | z
            · exact absurd z hSv
            · exact z
          · exfalso
            have := z 1 hdL
            rw [hz_s, Int.pow_zero] at this
            have : drv L 0 * 1 + p * 0 = 0 := this
            have e5 : drv L 0 = q := by
              rw [hL]
              show q * ((0 + 1 : Nat) : Int) = q
              rw [show ((0 + 1 : Nat) : Int) = 1 from rfl, Int.mul_one]
            omega
      obtain ⟨c2, K2, n2, hc2, hK2, eK2⟩ := lin_fac hq hK hKv
      refine ⟨c2 * c, K2, n2, Int.mul_ne_zero hc2 hc, hK2, ?_⟩
      rw [← pz_sc_sc, eK, ← pz_mul_scL, eK2, pz_mul_assoc, hL]
      rfl
  have hG0 : G dg ≠ 0 := by have := g.2.1; omega
  obtain ⟨w1, w2⟩ := hpw_deg (dd := 1) hLl (by rw [hL]; exact hq) (dg + 1)
  have := qdv.deg w1 w2 hGl hG0 (all (dg + 1))
  omega
