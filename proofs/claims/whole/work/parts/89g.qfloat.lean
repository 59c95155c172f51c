/-! THE PURE SIDE: floats that are no NaN -/
theorem fp_sn (f : Jvm.FP.Core.Fmt) (s : Bool) (c : Nat) (q : Int) : Jvm.FP.Core.settle f s c q ≠ .nan := by
  unfold Jvm.FP.Core.settle Jvm.FP.Core.bound
  repeat' split
  all_goals exact fun z => by cases z
theorem fp_rr (f : Jvm.FP.Core.Fmt) (s : Bool) (a b : Nat) (e : Int) : Jvm.FP.Core.roundRatio f s a b e ≠ .nan := by
  unfold Jvm.FP.Core.roundRatio
  split
  · exact fun z => by cases z
  · exact fp_sn f _ _ _
theorem fp_int (f : Jvm.FP.Core.Fmt) (n : Int) : Jvm.FP.Core.round f (Jvm.FP.Core.ofInt n) ≠ .nan := by
  unfold Jvm.FP.Core.ofInt
  exact fp_rr f _ _ _ _
theorem fp_quo {f : Jvm.FP.Core.Fmt} {x : Jvm.FP.Core.Datum} (hx : x ≠ .nan) {t : Bool} {d : Nat} {r : Int} (hd : d ≠ 0) : Jvm.FP.Core.quotient f x (.fin t d r) ≠ .nan := by
  cases x with
  | nan => exact absurd rfl hx
  | inf s => exact fun z => by cases z
  | fin s c q =>
    show (if d = 0 then (if c = 0 then Jvm.FP.Core.Datum.nan else .inf (s != t)) else Jvm.FP.Core.roundRatio f (s != t) c d (q - r)) ≠ .nan
    rw [if_neg hd]
    exact fp_rr f _ _ _ _
theorem vf64 {r : UInt64} (h : Jvm.FP.Core.val64 r ≠ .nan) : vf_n64 r := by
  have h2 := (Jvm.FP.Core.ne_nan r).mp h
  unfold vf_n64
  rw [UInt64.le_iff_toNat_le, UInt64.toNat_and]
  have e : (0x7fffffffffffffff : UInt64).toNat = 2 ^ 63 - 1 := by decide
  rw [e, Nat.and_two_pow_sub_one_eq_mod]
  exact h2
theorem vf32 {r : UInt32} (h : Jvm.FP.Core.val32 r ≠ .nan) : vf_n32 r := by
  have h2 := (Jvm.FP.Core.ne_nan32 r).mp h
  unfold vf_n32
  rw [UInt32.le_iff_toNat_le, UInt32.toNat_and]
  have e : (0x7fffffff : UInt32).toNat = 2 ^ 31 - 1 := by decide
  rw [e, Nat.and_two_pow_sub_one_eq_mod]
  exact h2
theorem fp_mean (s : Int32) : vf_n64 (FP.ddiv (FP.i2d s) 4622945017495814144) := by
  refine vf64 ?_
  rw [Jvm.FP.Core.val64_ddiv, Jvm.FP.Core.val64_i2d, show Jvm.FP.Core.val64 4622945017495814144 = .fin false 6755399441055744 (-49) by decide +kernel]
  exact fp_quo (fp_int _ _) (by decide)
/-- a whole number that is not 0 is not rounded to 0 -/
theorem fp_i2f {x : Int32} (h1 : 1 ≤ x.toInt) (h2 : x.toInt ≤ 16777216) : ∃ (t : Bool) (d : Nat) (r : Int), d ≠ 0 ∧ Jvm.FP.Core.val32 (FP.i2f x) = .fin t d r := by
  have h := Jvm.FP.Core.i2f_int (a := x) (show _ ≤ 2 ^ 24 by omega)
  unfold Jvm.FP.Core.FInt at h
  cases e : Jvm.FP.Core.val32 (Jvm.FP.Core.i2f x) with
  | nan => rw [e] at h; exact h.elim
  | inf s => rw [e] at h; exact h.elim
  | fin s c q =>
    rw [e] at h
    refine ⟨s, c, q, fun z => ?_, rfl⟩
    have h' : Jvm.FP.Core.signed s (c * 2 ^ q.toNat) = x.toInt * ((2 ^ (-q).toNat : Nat) : Int) := h
    rw [z, Nat.zero_mul] at h'
    have hp : (0 : Int) < ((2 ^ (-q).toNat : Nat) : Int) := Int.natCast_pos.mpr (Nat.two_pow_pos _)
    have h0 : Jvm.FP.Core.signed s 0 = 0 := by cases s <;> rfl
    rw [h0] at h'
    have := Int.mul_pos (show 0 < x.toInt by omega) hp
    omega
theorem fp_div {x y : Int32} (h1 : 1 ≤ y.toInt) (h2 : y.toInt ≤ 16777216) : vf_n32 (FP.fdiv (FP.i2f x) (FP.i2f y)) ∧ vf_n64 (FP.f2d (FP.fdiv (FP.i2f x) (FP.i2f y))) := by
  obtain ⟨t, d, r, hd, e⟩ := fp_i2f h1 h2
  have hn : Jvm.FP.Core.val32 (FP.fdiv (FP.i2f x) (FP.i2f y)) ≠ .nan := by
    rw [Jvm.FP.Core.val32_fdiv, e]
    refine fp_quo ?_ hd
    rw [Jvm.FP.Core.val32_i2f]
    exact fp_int _ _
  refine ⟨vf32 hn, vf64 ?_⟩
  have h3 := (Jvm.FP.Core.notNaN_iff32 _).mpr hn
  have h4 : FP.f2d (FP.fdiv (FP.i2f x) (FP.i2f y)) = Jvm.FP.Core.f2d (FP.fdiv (FP.i2f x) (FP.i2f y)) := by
    unfold FP.f2d
    rw [h3]
    rfl
  rw [h4]
  exact (Jvm.FP.Core.notNaN_iff _).mp (Jvm.FP.Core.f2d_out h3)
