/-! The reading of a text: what it is, and the reference's small steps of it. -/
section RDS
variable (T : Nat → Int) (tm : Nat)
def rsk : Nat → Nat → Nat
  | 0, a => a
  | n + 1, a => if T a = 32 then rsk n (a + 1) else a
abbrev rskp (a : Nat) : Nat := rsk T (tm - a) a
def rdg : Nat → Nat → Nat
  | 0, a => a
  | n + 1, a => if 48 ≤ T a ∧ T a ≤ 57 then rdg n (a + 1) else a
abbrev rdgp (a : Nat) : Nat := rdg T (tm - a) a
def rvl (s : Nat) : Nat → Int
  | 0 => 0
  | n + 1 => 10 * rvl s n + T (s + n) - 48
def rtk (c : Int) (a : Nat) : Option Nat := if rskp T tm a < tm ∧ T (rskp T tm a) = c then some (rskp T tm a + 1) else none
def rnm (most : Int) (a : Nat) : Bool × Nat :=
  if (1 ≤ rdgp T tm (rskp T tm a) - rskp T tm a ∧ rdgp T tm (rskp T tm a) - rskp T tm a ≤ 18) ∧ rvl T (rskp T tm a) (rdgp T tm (rskp T tm a) - rskp T tm a) ≤ most then (true, rdgp T tm (rskp T tm a)) else (false, rskp T tm a)
def rex (a : Nat) : Bool × Nat := match rtk T tm 94 a with
  | some c => rnm T tm 12 c
  | none => (true, rskp T tm a)
/-- the reading: fuel, what (0 a power, 1 a product, 2 a sum's rest, 3 a sum), how many parentheses may be opened, from where; whether it is one, and where it ends or where the error is -/
def rpr0 : Nat → Nat → Nat → Nat → Option (Bool × Nat)
  | 0, _, _, _ => none
  | f + 1, 0, d, a =>
    if rskp T tm a < tm ∧ T (rskp T tm a) = 120 then some (rex T tm (rskp T tm a + 1))
    else if rskp T tm a < tm ∧ T (rskp T tm a) = 40 then
      (if d = 0 then some (false, rskp T tm a) else match rpr0 f 3 (d - 1) (rskp T tm a + 1) with
        | none => none
        | some (false, e) => some (false, e)
        | some (true, c) => match rtk T tm 41 c with
          | none => some (false, rskp T tm c)
          | some e => some (rex T tm e))
    else match rnm T tm 9223372036854775807 (rskp T tm a) with
      | (false, e) => some (false, e)
      | (true, c) => some (rex T tm c)
  | f + 1, 1, d, a => match rpr0 f 0 d a with
    | some (true, c) => (match rtk T tm 42 c with
      | none => some (true, rskp T tm c)
      | some e => rpr0 f 1 d e)
    | r => r
  | f + 1, 2, d, a => match rpr0 f 1 d a with
    | some (true, c) => (match rtk T tm 43 c with
      | some e => rpr0 f 2 d e
      | none => match rtk T tm 45 (rskp T tm c) with
        | some e => rpr0 f 2 d e
        | none => some (true, rskp T tm c))
    | r => r
  | f + 1, _ + 3, d, a => match rtk T tm 45 a with
    | some e => rpr0 f 2 d e
    | none => rpr0 f 2 d (rskp T tm a)
end RDS
section RDL
variable {T : Nat → Int} {tm : Nat}
theorem rsk_ge : ∀ n a, a ≤ rsk T n a
  | 0, a => Nat.le_refl _
  | n + 1, a => by
    unfold rsk
    split
    · exact Nat.le_trans (Nat.le_succ _) (rsk_ge n (a + 1))
    · exact Nat.le_refl _
theorem rsk_le : ∀ n a, rsk T n a ≤ a + n
  | 0, a => Nat.le_refl _
  | n + 1, a => by
    unfold rsk
    split
    · have := rsk_le n (a + 1)
      omega
    · omega
theorem rsk_stop : ∀ n a, rsk T n a = a + n ∨ T (rsk T n a) ≠ 32
  | 0, a => Or.inl rfl
  | n + 1, a => by
    unfold rsk
    split
    · rcases rsk_stop n (a + 1) with h | h
      · exact Or.inl (by omega)
      · exact Or.inr h
    · rename_i c
      exact Or.inr c
theorem rskp_ge (a : Nat) : a ≤ rskp T tm a := rsk_ge _ _
theorem rskp_le {a : Nat} (h : a ≤ tm) : rskp T tm a ≤ tm := by
  have := rsk_le (T := T) (tm - a) a
  show rsk T (tm - a) a ≤ tm
  omega
theorem rskp_idem {a : Nat} (h : a ≤ tm) : rskp T tm (rskp T tm a) = rskp T tm a := by
  rcases rsk_stop (T := T) (tm - a) a with q | q
  · have e : rskp T tm a = tm := by show rsk T (tm - a) a = tm; omega
    rw [e]
    show rsk T (tm - tm) tm = tm
    rw [Nat.sub_self]
    rfl
  · show rsk T (tm - rskp T tm a) (rskp T tm a) = rskp T tm a
    generalize tm - rskp T tm a = n
    cases n with
    | zero => rfl
    | succ n => exact if_neg q
theorem rdg_ge : ∀ n a, a ≤ rdg T n a
  | 0, a => Nat.le_refl _
  | n + 1, a => by
    unfold rdg
    split
    · exact Nat.le_trans (Nat.le_succ _) (rdg_ge n (a + 1))
    · exact Nat.le_refl _
theorem rdg_le : ∀ n a, rdg T n a ≤ a + n
  | 0, a => Nat.le_refl _
  | n + 1, a => by
    unfold rdg
    split
    · have := rdg_le n (a + 1)
      omega
    · omega
theorem rdg_in : ∀ n a j, a ≤ j → j < rdg T n a → 48 ≤ T j ∧ T j ≤ 57
  | 0, a, j, h1, h2 => by
    have h3 : j < a := h2
    omega
  | n + 1, a, j, h1, h2 => by
    unfold rdg at h2
    split at h2
    · rename_i c
      by_cases q : j = a
      · rw [q]
        exact c
      · exact rdg_in n (a + 1) j (by omega) h2
    · omega
theorem rvl_bd {s : Nat} : ∀ k, (∀ j, s ≤ j → j < s + k → 48 ≤ T j ∧ T j ≤ 57) → 0 ≤ rvl T s k ∧ rvl T s k < ((10 ^ k : Nat) : Int)
  | 0, _ => by
    show (0 : Int) ≤ 0 ∧ (0 : Int) < ((10 ^ 0 : Nat) : Int)
    decide
  | k + 1, h => by
    have ih := rvl_bd (s := s) k (fun j h1 h2 => h j h1 (by omega))
    have hk := h (s + k) (by omega) (by omega)
    show 0 ≤ 10 * rvl T s k + T (s + k) - 48 ∧ 10 * rvl T s k + T (s + k) - 48 < ((10 ^ (k + 1) : Nat) : Int)
    rw [Nat.pow_succ]
    omega
end RDL
/-- the fields of a reading: where it is, how many parentheses are open, where the error is -/
def st3 (S : Nat → Int) (a o e : Int) : Nat → Int := jvu (jvu (jvu S 10 a) 11 o) 12 e
theorem st3_10 (S : Nat → Int) (a o e b : Int) : jvu (st3 S a o e) 10 b = st3 S b o e := funext fun x => by
  unfold st3 jvu
  (repeat' split) <;> omega
theorem st3_11 (S : Nat → Int) (a o e b : Int) : jvu (st3 S a o e) 11 b = st3 S a b e := funext fun x => by
  unfold st3 jvu
  (repeat' split) <;> omega
theorem st3_12 (S : Nat → Int) (a o e b : Int) : jvu (st3 S a o e) 12 b = st3 S a o b := funext fun x => by
  unfold st3 jvu
  (repeat' split) <;> omega
section RDM
variable {S N B T X V : Nat → Int} {h : mj_H} {D tm : Nat} {o e : Int}
theorem st3_g10 {a : Int} : (rF (st3 S a o e))[10]? = some (.int (jn a)) := rfl
theorem st3_g11 {a : Int} : (rF (st3 S a o e))[11]? = some (.int (jn o)) := rfl
theorem st3_g9 {a : Int} (h9 : S 9 = (tm : Int)) : (rF (st3 S a o e))[9]? = some (.int (jn (tm : Int))) := by
  rw [← h9]
  rfl
theorem rd_errs {a x : Int} (hs : rS (st3 S a o e) N B T X V h) : mj_Ok (D + 1) 288 [.ref 0, .int (jn x)] h (fun r => ∃ h2, rS (st3 S a o x) N B T X V h2 ∧ r = (.inl (some (.int (jn 0))), h2)) := by
  refine mj_Ok.of (M := mj_m288) rfl rfl rfl ?_
  iterate 2 refine mj_T.pl rfl rfl rfl rfl ?_
  refine rT_put (v := x) hs rfl rfl (by decide) rfl (fun h1 hs1 => ?_)
  rw [st3_12] at hs1
  refine mj_T.pl rfl rfl rfl rfl ?_
  exact mj_T.ret rfl rfl rfl ⟨h1, hs1, rfl⟩
theorem rd_isDigit {v : Int} (hv : jr v) : mj_Ok (D + 1) 291 [.int (jn v)] h (fun r => ((48 ≤ v ∧ v ≤ 57) ∧ r = (.inl (some (.int (jn 1))), h)) ∨ (¬ (48 ≤ v ∧ v ≤ 57) ∧ r = (.inl (some (.int (jn 0))), h))) := by
  refine mj_Ok.of (M := mj_m291) rfl rfl rfl ?_
  iterate 2 refine mj_T.pl rfl rfl rfl rfl ?_
  refine mj_T.icmp (a := v) (b := 48) rfl hv ⟨by decide, by decide⟩ (fun hc => ?_) (fun hc => ?_)
  · simp only [jc, decide_eq_true_eq] at hc
    refine mj_T.pl rfl rfl rfl rfl ?_
    exact mj_T.ret rfl rfl rfl (Or.inr ⟨by omega, rfl⟩)
  simp only [jc, decide_eq_false_iff_not] at hc
  iterate 2 refine mj_T.pl rfl rfl rfl rfl ?_
  refine mj_T.icmp (a := v) (b := 57) rfl hv ⟨by decide, by decide⟩ (fun hc2 => ?_) (fun hc2 => ?_)
  · simp only [jc, decide_eq_true_eq] at hc2
    refine mj_T.pl rfl rfl rfl rfl ?_
    exact mj_T.ret rfl rfl rfl (Or.inr ⟨by omega, rfl⟩)
  · simp only [jc, decide_eq_false_iff_not] at hc2
    iterate 2 refine mj_T.pl rfl rfl rfl rfl ?_
    exact mj_T.ret rfl rfl rfl (Or.inl ⟨⟨by omega, by omega⟩, rfl⟩)
/-- the current sign is loaded -/
theorem rd_skips_loop (h9 : S 9 = (tm : Int)) (ht : tm ≤ 200) (hT : ∀ j : Nat, j < tm → 1 ≤ T j ∧ T j ≤ 255) {Q : mj_R → Prop} :
    ∀ (n a : Nat) (h : mj_H), a + n = tm → rS (st3 S (a : Int) o e) N B T X V h → (∀ h2, rS (st3 S (rsk T n a : Nat) o e) N B T X V h2 → Q (.inl none, h2)) → mj_T D mj_m289 0 [some (.ref 0)] [] h Q := by
  intro n
  induction n with
  | zero =>
    intro a h ha hs hend
    have ha2 : a = tm := by omega
    subst ha2
    refine mj_T.pl rfl rfl rfl rfl ?_
    refine rT_get hs rfl st3_g10 ?_
    refine mj_T.pl rfl rfl rfl rfl ?_
    refine rT_get hs rfl (st3_g9 h9) ?_
    refine mj_T.icmp (a := (a : Int)) (b := (a : Int)) rfl ⟨by omega, by omega⟩ ⟨by omega, by omega⟩ (fun hc => ?_) (fun hc => ?_)
    · exact mj_T.ret rfl rfl rfl (hend h hs)
    · simp only [jc, decide_eq_false_iff_not] at hc
      omega
  | succ n ih =>
    intro a h ha hs hend
    have hTa := hT a (by omega)
    refine mj_T.pl rfl rfl rfl rfl ?_
    refine rT_get hs rfl st3_g10 ?_
    refine mj_T.pl rfl rfl rfl rfl ?_
    refine rT_get hs rfl (st3_g9 h9) ?_
    refine mj_T.icmp (a := (a : Int)) (b := (tm : Int)) rfl ⟨by omega, by omega⟩ ⟨by omega, by omega⟩ (fun hc => ?_) (fun hc => ?_)
    · simp only [jc, decide_eq_true_eq] at hc
      omega
    refine mj_T.pl rfl rfl rfl rfl ?_
    refine rT_get hs rfl rfl ?_
    refine mj_T.pl rfl rfl rfl rfl ?_
    refine rT_get hs rfl st3_g10 ?_
    refine rT_ldT hs rfl ⟨by omega, by omega⟩ ?_
    rw [Int.toNat_natCast]
    refine mj_T.pl rfl rfl rfl rfl ?_
    refine mj_T.icmp (a := T a) (b := 32) rfl ⟨by omega, by omega⟩ ⟨by decide, by decide⟩ (fun hc2 => ?_) (fun hc2 => ?_)
    · simp only [jc, Bool.not_eq_true', decide_eq_false_iff_not] at hc2
      rw [show rsk T (n + 1) a = a from if_neg hc2] at hend
      exact mj_T.ret rfl rfl rfl (hend h hs)
    · simp only [jc, Bool.not_eq_false', decide_eq_true_eq] at hc2
      rw [show rsk T (n + 1) a = rsk T n (a + 1) from if_pos hc2] at hend
      iterate 2 refine mj_T.pl rfl rfl rfl rfl ?_
      refine rT_get hs rfl st3_g10 ?_
      refine mj_T.pl rfl rfl rfl rfl ?_
      refine mj_T.iadd (a := (a : Int)) (b := 1) rfl ?_
      rw [show (a : Int) + 1 = ((a + 1 : Nat) : Int) by omega]
      refine rT_put (v := ((a + 1 : Nat) : Int)) hs rfl rfl (by decide) rfl (fun h1 hs1 => ?_)
      rw [st3_10] at hs1
      refine mj_T.pl rfl rfl rfl rfl ?_
      exact ih (a + 1) h1 (by omega) hs1 hend
theorem rd_skips {a : Nat} (h9 : S 9 = (tm : Int)) (ht : tm ≤ 200) (hT : ∀ j : Nat, j < tm → 1 ≤ T j ∧ T j ≤ 255) (ha : a ≤ tm) (hs : rS (st3 S (a : Int) o e) N B T X V h) : mj_Ok (D + 1) 289 [.ref 0] h (fun r => ∃ h2, rS (st3 S (rskp T tm a : Nat) o e) N B T X V h2 ∧ r = (.inl none, h2)) := by
  refine mj_Ok.of (M := mj_m289) rfl rfl rfl ?_
  exact rd_skips_loop (D := D) h9 ht hT (tm - a) a h (by omega) hs (fun h2 hs2 => ⟨h2, hs2, rfl⟩)
theorem rd_takes {a : Nat} {c : Int} (hc : jr c) (h9 : S 9 = (tm : Int)) (ht : tm ≤ 200) (hT : ∀ j : Nat, j < tm → 1 ≤ T j ∧ T j ≤ 255) (ha : a ≤ tm) (hs : rS (st3 S (a : Int) o e) N B T X V h) : mj_Ok (D + 2) 290 [.ref 0, .int (jn c)] h (fun r => (∃ (b : Nat) (h2 : mj_H), (rtk T tm c a = some b ∧ b ≤ tm ∧ a < b) ∧ rS (st3 S (b : Int) o e) N B T X V h2 ∧ r = (.inl (some (.int (jn 1))), h2)) ∨ (∃ h2, rtk T tm c a = none ∧ rS (st3 S (rskp T tm a : Nat) o e) N B T X V h2 ∧ r = (.inl (some (.int (jn 0))), h2))) := by
  refine mj_Ok.of (M := mj_m290) rfl rfl rfl ?_
  have hle := rskp_le (T := T) ha
  have hge := rskp_ge (T := T) (tm := tm) a
  refine mj_T.pl rfl rfl rfl rfl ?_
  refine mj_T.call (ins := .invokevirtual 348) rfl rfl (Nat.le_of_ble_eq_true rfl) (Nat.le_of_ble_eq_true rfl) (by simp [mj_recv, rS_f hs]) rfl (rd_skips (D := D) h9 ht hT ha hs) (fun v' h1 hq' => ?_) (fun i h' hq' => by obtain ⟨_, _, h⟩ := hq'; cases h)
  obtain ⟨_, hs1, hq'⟩ := hq'
  cases hq'
  obtain ⟨s, hsdef⟩ : ∃ s, rskp T tm a = s := ⟨_, rfl⟩
  rw [hsdef] at hs1 hle hge ⊢
  refine mj_T.pl rfl rfl rfl rfl ?_
  refine rT_get hs1 rfl st3_g10 ?_
  refine mj_T.pl rfl rfl rfl rfl ?_
  refine rT_get hs1 rfl (st3_g9 h9) ?_
  have t28 : ¬ (s < tm ∧ T s = c) → mj_T (D + 1) mj_m290 28 [some (.ref 0), some (.int (jn c))] [] h1 (fun r => (∃ (b : Nat) (h2 : mj_H), (rtk T tm c a = some b ∧ b ≤ tm ∧ a < b) ∧ rS (st3 S (b : Int) o e) N B T X V h2 ∧ r = (.inl (some (.int (jn 1))), h2)) ∨ (∃ h2, rtk T tm c a = none ∧ rS (st3 S (s : Nat) o e) N B T X V h2 ∧ r = (.inl (some (.int (jn 0))), h2))) := fun hn => by
    refine mj_T.pl rfl rfl rfl rfl ?_
    exact mj_T.ret rfl rfl rfl (Or.inr ⟨h1, by unfold rtk; rw [hsdef, if_neg hn], hs1, rfl⟩)
  refine mj_T.icmp (a := (s : Int)) (b := (tm : Int)) rfl ⟨by omega, by omega⟩ ⟨by omega, by omega⟩ (fun hc1 => ?_) (fun hc1 => ?_)
  · simp only [jc, decide_eq_true_eq] at hc1
    exact t28 (by omega)
  simp only [jc, decide_eq_false_iff_not] at hc1
  have hTs := hT s (by omega)
  refine mj_T.pl rfl rfl rfl rfl ?_
  refine rT_get hs1 rfl rfl ?_
  refine mj_T.pl rfl rfl rfl rfl ?_
  refine rT_get hs1 rfl st3_g10 ?_
  refine rT_ldT hs1 rfl ⟨by omega, by omega⟩ ?_
  rw [Int.toNat_natCast]
  refine mj_T.pl rfl rfl rfl rfl ?_
  refine mj_T.icmp (a := T s) (b := c) rfl ⟨by omega, by omega⟩ hc (fun hc2 => ?_) (fun hc2 => ?_)
  · simp only [jc, decide_eq_true_eq] at hc2
    iterate 2 refine mj_T.pl rfl rfl rfl rfl ?_
    refine rT_get hs1 rfl st3_g10 ?_
    refine mj_T.pl rfl rfl rfl rfl ?_
    refine mj_T.iadd (a := (s : Int)) (b := 1) rfl ?_
    rw [show (s : Int) + 1 = ((s + 1 : Nat) : Int) by omega]
    refine rT_put (v := ((s + 1 : Nat) : Int)) hs1 rfl rfl (by decide) rfl (fun h2 hs2 => ?_)
    rw [st3_10] at hs2
    refine mj_T.pl rfl rfl rfl rfl ?_
    exact mj_T.ret rfl rfl rfl (Or.inl ⟨s + 1, h2, ⟨by unfold rtk; rw [hsdef, if_pos ⟨by omega, hc2⟩], by omega, by omega⟩, hs2, rfl⟩)
  · simp only [jc, decide_eq_false_iff_not] at hc2
    exact t28 (fun q => hc2 q.2)
end RDM
