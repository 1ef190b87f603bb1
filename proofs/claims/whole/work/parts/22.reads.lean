/-! the treaty as a row of numbers, and what the class reads of it -/
def sT_ (T : Nat → Int32) (j k : Nat) : Int32 := T (34 + 7 * j + k)
def gT_ (T : Nat → Int32) (b k : Nat) : Int32 := T (12 + 5 * b + k)
def oT_ (T : Nat → Int32) (i : Nat) : Int32 := T (24 + i)
/-- the sixteen cells tell the treaty T, of n staircases -/
def R_ (g : Nat → Nat) (w : Nat → Nat → Int32) (T : Nat → Int32) (n : Nat) : Prop :=
  n ≤ 10 ∧ (T 0 = nI n ∧ w 0 3 = nI n ∧ w 0 4 = T 1 ∧ w 0 5 = T 3 ∧ w 0 6 = T 2 ∧ w 0 7 = T 5 ∧ w 0 8 = T 8 ∧ w 0 9 = T 9) ∧ (∀ k, k < 8 → w 2 k = oT_ T k) ∧ (∀ b k, b < 2 → k < 5 → w (b + 4) k = gT_ T b k) ∧ (∀ j k, j < n → k < 7 → w (g j) k = sT_ T j k) ∧ (∀ j, j < 10 → si_ (g j)) ∧ ∀ i j, i < 10 → j < 10 → g i = g j → i = j
def bI_ (p : Prop) [Decidable p] : Int32 := if p then nI 1 else nI 0
theorem bI_0 {p : Prop} [Decidable p] : bI_ p = 0 ↔ ¬ p := by
  unfold bI_
  by_cases h : p
  · rw [if_pos h]
    exact ⟨fun e => absurd e (by decide), fun e => absurd h e⟩
  · rw [if_neg h]
    exact ⟨fun _ => h, fun _ => rfl⟩
theorem bI_n {p : Prop} [Decidable p] : bI_ p = nI 0 ↔ ¬ p := bI_0
theorem bI_nar {p : Prop} [Decidable p] : fx_nar .boolean (bI_ p) = some (bI_ p) := by
  unfold bI_
  split <;> rfl
theorem bI_t {p : Prop} [Decidable p] (h : p) : bI_ p = ki 1 := by
  unfold bI_
  rw [if_pos h]
  rfl
theorem bI_f {p : Prop} [Decidable p] (h : ¬ p) : bI_ p = ki 0 := by
  unfold bI_
  rw [if_neg h]
  rfl
/-- a number in bounds -/
def In_ (a b x : Int32) : Bool := decide (a ≤ x ∧ x ≤ b)
theorem In_iff {a b x : Int32} : In_ a b x = true ↔ a ≤ x ∧ x ≤ b := decide_eq_true_iff
theorem c_in (h : mm_S) (x a b : Int32) : F_X5_isInRange h x a b = some (bI_ (In_ a b x)) := by
  unfold F_X5_isInRange
  by_cases h1 : x < a
  · rw [if_pos h1, bI_f]
    intro q
    exact absurd h1 (Int32.not_lt.mpr (In_iff.mp q).1)
  · rw [if_neg h1]
    by_cases h2 : b < x
    · rw [if_pos h2, bI_f]
      intro q
      exact absurd h2 (Int32.not_lt.mpr (In_iff.mp q).2)
    · rw [if_neg h2, bI_t]
      exact In_iff.mpr ⟨Int32.not_lt.mp h1, Int32.not_lt.mp h2⟩
theorem c_isL (h : mm_S) (x : Int32) : F_X5_isLanding h x = some (bI_ (In_ (nI 0) (nI 7) x)) := by
  unfold F_X5_isLanding
  rw [kj_i0, kk_b7, c_in, Option.bind_some, bI_nar, Option.bind_some]
theorem c_isG (h : mm_S) (x : Int32) : F_X5_isGiant h x = some (bI_ (In_ (nI 0) (nI 1) x)) := by
  unfold F_X5_isGiant
  rw [kj_i0, kj_i1, c_in, Option.bind_some, bI_nar, Option.bind_some]
theorem In_of {m : Nat} {x : Int32} (hm : m < 2 ^ 31) (hx : In_ (nI 0) (nI m) x = true) : ∃ j : Nat, j ≤ m ∧ x = nI j :=
  nI_of2 (nI_toInt hm) (Int32.not_lt.mpr (In_iff.mp hx).1) (In_iff.mp hx).2
theorem In_nI {m j : Nat} (hm : m < 2 ^ 31) (hj : j < 2 ^ 31) : In_ (nI 0) (nI m) (nI j) = true ↔ j ≤ m := by
  rw [In_iff, nI_leI hj hm]
  exact ⟨fun q => q.2, fun q => ⟨nI_pos' hj, q⟩⟩
/-- a staircase of n -/
def S_ (n : Nat) (x : Int32) : Bool := In_ (nI 0) (nI n - nI 1) x
theorem S_of {n : Nat} {x : Int32} (hn : n ≤ 10) (hx : S_ n x = true) : ∃ j : Nat, j < n ∧ x = nI j := by
  cases n with
  | zero =>
    exact absurd (Int32.le_trans (In_iff.mp hx).1 (In_iff.mp hx).2) (by decide)
  | succ n =>
    unfold S_ at hx
    rw [pk_sub (by omega)] at hx
    obtain ⟨j, hj, e⟩ := In_of (by omega) hx
    exact ⟨j, by omega, e⟩
theorem S_nI {n j : Nat} (hn : n ≤ 10) (hj : j < 2 ^ 31) : S_ n (nI j) = true ↔ j < n := by
  cases n with
  | zero =>
    refine ⟨fun hx => ?_, fun q => by omega⟩
    exact absurd (Int32.le_trans (In_iff.mp hx).1 (In_iff.mp hx).2) (by decide)
  | succ n =>
    unfold S_
    rw [pk_sub (by omega), In_nI (by omega) hj]
    omega
/-- the numbers of a staircase -/
def E_ (f : Nat → Int32) (x : Int32) : Bool := decide (f 0 = x ∨ f 1 = x)
theorem E_iff {f : Nat → Int32} {x : Int32} : E_ f x = true ↔ f 0 = x ∨ f 1 = x := decide_eq_true_iff
def oth_ (f : Nat → Int32) (x : Int32) : Int32 := if f 0 = x then f 1 else f 0
def rent_ (f : Nat → Int32) : Int32 := nI 1 + f 2 / nI 8
def dpd_ (f : Nat → Int32) : Int32 := nI 1 + f 2 / nI 5
def cost_ (f : Nat → Int32) (x : Int32) : Int32 := if x = m1_ ∨ f 5 = x then f 2 else nI 2 * f 2
def key_ (f : Nat → Int32) (x : Int32) : Int32 := if x = nI 0 then f 2 else if x = nI 1 then f 3 else if x = nI 2 then f 6 else rent_ f
def rf_ (c d : Int32) : Int64 := (c.toInt64 <<< ((kb 32).toInt64 &&& 63)) ||| (d.toInt64 &&& (kl 4294967295))
def rL_ (o : Option (Int32 × Int32)) : Int64 := match o with
  | none => kl 0
  | some q => rf_ q.1 q.2
theorem c_rf (h : mm_S) (c d : Int32) : F_X5_refusalFor h c d = some (rf_ c d) := rfl
section RD
variable {l g : Nat → Nat} {w : Nat → Nat → Int32} {h : mm_S} {i k j b n : Nat} {v : Int32} {T : Nat → Int32}
theorem t_isEnd (hl : ov_L 16 l h) (hi : si_ i) (x : Int32) : F_X2_isEnd (tv_ l g w h) (l i) x = some (bI_ (E_ (w i) x)) := by
  unfold F_X2_isEnd
  rw [tv_gS hl hi (by decide), Option.bind_some, tv_gS hl hi (by decide), Option.bind_some]
  by_cases h1 : w i 0 = x
  · rw [if_pos h1, bI_t (E_iff.mpr (.inl h1))]
  · rw [if_neg h1]
    by_cases h2 : w i 1 = x
    · rw [if_neg (fun q => q h2), bI_t (E_iff.mpr (.inr h2))]
    · rw [if_pos h2, bI_f (fun q => (E_iff.mp q).elim h1 h2)]
theorem t_oth (hl : ov_L 16 l h) (hi : si_ i) (x : Int32) : F_X2_otherEnd (tv_ l g w h) (l i) x = some (oth_ (w i) x) := by
  unfold F_X2_otherEnd
  rw [tv_gS hl hi (by decide), Option.bind_some, Option.bind_some, tv_gS hl hi (by decide), Option.bind_some]
  unfold oth_
  by_cases h1 : w i 0 = x
  · rw [if_neg (fun q => q h1), if_pos h1]
  · rw [if_pos h1, if_neg h1]
theorem t_rent (hl : ov_L 16 l h) (hi : si_ i) : F_X2_rent (tv_ l g w h) (l i) = some (rent_ (w i)) := by
  unfold F_X2_rent
  simp only [tv_gS hl hi (show 2 < 7 by decide), Option.bind_some, fx_div, kk_b8, kj_i1, kj_l1, kj_l0, kj_l8, if_neg (show ¬ nI 8 = nI 0 by decide)]
  rfl
theorem t_dpd (hl : ov_L 16 l h) (hi : si_ i) : F_X2_dustPerDay (tv_ l g w h) (l i) = some (dpd_ (w i)) := by
  unfold F_X2_dustPerDay
  simp only [tv_gS hl hi (show 2 < 7 by decide), Option.bind_some, fx_div, kj_i1, kj_i5, kj_l5, kj_l1, kj_l0, if_neg (show ¬ nI 5 = nI 0 by decide)]
  rfl
theorem t_leased (hl : ov_L 16 l h) (hi : si_ i) : F_X2_isLeased (tv_ l g w h) (l i) = some (bI_ (In_ (nI 0) (nI 1) (w i 5))) := by
  unfold F_X2_isLeased
  rw [tv_gS hl hi (by decide), Option.bind_some, c_isG, Option.bind_some, bI_nar, Option.bind_some]
theorem t_cost (hl : ov_L 16 l h) (hi : si_ i) (x : Int32) : F_X2_costFor (tv_ l g w h) (l i) x = some (cost_ (w i) x) := by
  unfold F_X2_costFor cost_
  simp only [tv_gS hl hi (show 2 < 7 by decide), tv_gS hl hi (show 5 < 7 by decide), Option.bind_some, kk_m2, kk_m3, kj_i2, kj_l2]
  by_cases h1 : x = m1_
  · simp [h1]
  · by_cases h2 : w i 5 = x
    · simp [h1, h2]
    · simp [h1, h2, kj_i2]
theorem t_key (hl : ov_L 16 l h) (hi : si_ i) (x : Int32) : F_X2_keyOf (tv_ l g w h) (l i) x = some (key_ (w i) x) := by
  unfold F_X2_keyOf key_
  simp only [tv_gS hl hi (show 2 < 7 by decide), tv_gS hl hi (show 3 < 7 by decide), tv_gS hl hi (show 6 < 7 by decide), tv_is hl, tv_isS hl hi, t_rent hl hi, Option.bind_some]
  split
  · rfl
  · split
    · rfl
    · split <;> rfl
/-! what R tells -/
theorem R_n (R : R_ g w T n) : n ≤ 10 := R.1
theorem R_T0 (R : R_ g w T n) : T 0 = nI n := R.2.1.1
theorem R_si (R : R_ g w T n) (hj : j < n) : si_ (g j) := R.2.2.2.2.2.1 j (by have := R.1; omega)
theorem R_si2 (R : R_ g w T n) (hj : j < 10) : si_ (g j) := R.2.2.2.2.2.1 j hj
theorem R_s (R : R_ g w T n) (hj : j < n) (hk : k < 7) : w (g j) k = sT_ T j k := R.2.2.2.2.1 j k hj hk
theorem R_E (R : R_ g w T n) (hj : j < n) (x : Int32) : E_ (w (g j)) x = E_ (sT_ T j) x := by
  unfold E_
  rw [R_s R hj (by decide), R_s R hj (by decide)]
theorem gi_b (hb : b < 2) : gi_ (b + 4) := by
  unfold gi_
  omega
theorem bI_c {p q : Prop} [Decidable p] [Decidable q] (h : p ↔ q) : bI_ p = bI_ q := by
  unfold bI_
  by_cases hp : p
  · rw [if_pos hp, if_pos (h.mp hp)]
  · rw [if_neg hp, if_neg (fun x => hp (h.mpr x))]
theorem T_n (hl : ov_L 16 l h) (R : R_ g w T n) : fx_gI (tv_ l g w h) (l 0) 3 3 = some (nI n) := by
  rw [tv_gN hl (by decide) (by decide), R.2.1.2.1]
theorem T_d (hl : ov_L 16 l h) (R : R_ g w T n) : fx_gI (tv_ l g w h) (l 0) 3 4 = some (T 1) := by
  rw [tv_gN hl (by decide) (by decide), R.2.1.2.2.1]
theorem T_t (hl : ov_L 16 l h) (R : R_ g w T n) : fx_gI (tv_ l g w h) (l 0) 3 5 = some (T 3) := by
  rw [tv_gN hl (by decide) (by decide), R.2.1.2.2.2.1]
theorem T_c (hl : ov_L 16 l h) (R : R_ g w T n) : fx_gI (tv_ l g w h) (l 0) 3 6 = some (T 2) := by
  rw [tv_gN hl (by decide) (by decide), R.2.1.2.2.2.2.1]
theorem T_v (hl : ov_L 16 l h) (R : R_ g w T n) : fx_gI (tv_ l g w h) (l 0) 3 7 = some (T 5) := by
  rw [tv_gN hl (by decide) (by decide), R.2.1.2.2.2.2.2.1]
theorem T_k (hl : ov_L 16 l h) (R : R_ g w T n) : fx_gI (tv_ l g w h) (l 0) 3 8 = some (T 8) := by
  rw [tv_gN hl (by decide) (by decide), R.2.1.2.2.2.2.2.2.1]
theorem T_h (hl : ov_L 16 l h) (R : R_ g w T n) : fx_gI (tv_ l g w h) (l 0) 3 9 = some (T 9) := by
  rw [tv_gN hl (by decide) (by decide), R.2.1.2.2.2.2.2.2.2]
theorem T_O (hl : ov_L 16 l h) (R : R_ g w T n) (hk : k < 8) : fx_aI (tv_ l g w h) (l 2) (nI k) = some (oT_ T k) := by
  rw [tv_aO hl hk, R.2.2.1 k hk]
theorem T_G (hl : ov_L 16 l h) (R : R_ g w T n) (hb : b < 2) (hk : k < 5) : fx_gI (tv_ l g w h) (l (b + 4)) 0 k = some (gT_ T b k) := by
  rw [tv_gG hl (gi_b hb) hk, R.2.2.2.1 b k hb hk]
theorem T_S (hl : ov_L 16 l h) (R : R_ g w T n) (hj : j < n) (hk : k < 7) : fx_gI (tv_ l g w h) (l (g j)) 2 k = some (sT_ T j k) := by
  rw [tv_gS hl (R_si R hj) hk, R_s R hj hk]
theorem T_aS (hl : ov_L 16 l h) (R : R_ g w T n) (hj : j < n) : fx_aR (tv_ l g w h) (l 3) (nI j) = some (l (g j)) := tv_aS hl (by have := R.1; omega)
theorem T_is (hl : ov_L 16 l h) (R : R_ g w T n) (hj : j < n) : fx_is (tv_ l g w h) (l (g j)) 2 = some () := tv_isS hl (R_si R hj)
theorem T_E (hl : ov_L 16 l h) (R : R_ g w T n) (hj : j < n) (x : Int32) : F_X2_isEnd (tv_ l g w h) (l (g j)) x = some (bI_ (E_ (sT_ T j) x)) := by
  rw [t_isEnd hl (R_si R hj), R_E R hj x]
theorem T_oth (hl : ov_L 16 l h) (R : R_ g w T n) (hj : j < n) (x : Int32) : F_X2_otherEnd (tv_ l g w h) (l (g j)) x = some (oth_ (sT_ T j) x) := by
  rw [t_oth hl (R_si R hj)]
  unfold oth_
  rw [R_s R hj (by decide), R_s R hj (by decide)]
theorem T_rent (hl : ov_L 16 l h) (R : R_ g w T n) (hj : j < n) : F_X2_rent (tv_ l g w h) (l (g j)) = some (rent_ (sT_ T j)) := by
  rw [t_rent hl (R_si R hj)]
  unfold rent_
  rw [R_s R hj (by decide)]
theorem T_dpd (hl : ov_L 16 l h) (R : R_ g w T n) (hj : j < n) : F_X2_dustPerDay (tv_ l g w h) (l (g j)) = some (dpd_ (sT_ T j)) := by
  rw [t_dpd hl (R_si R hj)]
  unfold dpd_
  rw [R_s R hj (by decide)]
theorem T_leased (hl : ov_L 16 l h) (R : R_ g w T n) (hj : j < n) : F_X2_isLeased (tv_ l g w h) (l (g j)) = some (bI_ (In_ (nI 0) (nI 1) (sT_ T j 5))) := by
  rw [t_leased hl (R_si R hj), R_s R hj (by decide)]
theorem T_cost (hl : ov_L 16 l h) (R : R_ g w T n) (hj : j < n) (x : Int32) : F_X2_costFor (tv_ l g w h) (l (g j)) x = some (cost_ (sT_ T j) x) := by
  rw [t_cost hl (R_si R hj)]
  unfold cost_
  rw [R_s R hj (by decide), R_s R hj (by decide)]
theorem T_key (hl : ov_L 16 l h) (R : R_ g w T n) (hj : j < n) (x : Int32) : F_X2_keyOf (tv_ l g w h) (l (g j)) x = some (key_ (sT_ T j) x) := by
  rw [t_key hl (R_si R hj)]
  unfold key_ rent_
  rw [R_s R hj (by decide), R_s R hj (by decide), R_s R hj (by decide)]
theorem T_isS (hl : ov_L 16 l h) (R : R_ g w T n) (x : Int32) : F_X3_isStair (tv_ l g w h) (l 0) x = some (bI_ (S_ n x)) := by
  unfold F_X3_isStair
  rw [T_n hl R, Option.bind_some, kj_i0, kj_i1, c_in, Option.bind_some, bI_nar, Option.bind_some]
  rfl
theorem nI_s (i : Nat) : nI i + ki 1 = nI (i + 1) := nI_1 i
/-! the loops that only read -/
def qJ_ (T : Nat → Int32) (n : Nat) (a b : Int32) : Option Nat := (List.range n).find? (fun j => (decide (a ≠ b) && (E_ (sT_ T j) a && E_ (sT_ T j) b)))
def oI_ (o : Option Nat) : Int32 := match o with
  | some j => nI j
  | none => m1_
theorem T_join (hl : ov_L 16 l h) (R : R_ g w T n) (a b : Int32) : F_X3_stairThatJoins (tv_ l g w h) (l 0) a b = some (oI_ (qJ_ T n a b)) := by
  have hn := R_n R
  unfold F_X3_stairThatJoins
  have key := lp_d (n := n) (f := fun m i => F_X3_stairThatJoins_L2 (tv_ l g w h) m (l 0) a b (nI i)) (fun j => (decide (a ≠ b) && (E_ (sT_ T j) a && E_ (sT_ T j) b))) (fun i => .inl (nI i)) (fun m i hi => by
    rw [F_X3_stairThatJoins_L2, T_n hl R, Option.bind_some, if_neg (nI_ge hi (by omega))]
    by_cases hab : a = b
    · rw [if_pos hab, nI_s, if_neg (by simp [hab])]
    · rw [if_neg hab, tv_r2 hl, Option.bind_some, T_aS hl R hi, Option.bind_some, T_is hl R hi, Option.bind_some, T_E hl R hi, Option.bind_some, nI_s]
      by_cases h1 : E_ (sT_ T i) a = true
      · rw [if_neg (fun q => bI_0.mp q h1), Option.bind_some, T_aS hl R hi, Option.bind_some, T_is hl R hi, Option.bind_some, T_E hl R hi, Option.bind_some]
        by_cases h2 : E_ (sT_ T i) b = true
        · rw [if_neg (fun q => bI_0.mp q h2), if_pos (by simp [hab, h1, h2])]
        · rw [if_pos (bI_0.mpr h2), if_neg (by simp [h2])]
      · rw [if_pos (bI_0.mpr h1), if_neg (by simp [h1])]) 1000 (by omega)
  rw [show ki 0 = nI 0 from rfl]
  rw [key]
  unfold qJ_
  cases (List.range n).find? (fun j => (decide (a ≠ b) && (E_ (sT_ T j) a && E_ (sT_ T j) b))) with
  | some j => rfl
  | none =>
    dsimp only
    rw [show 1000 - n = (999 - n) + 1 from by omega, F_X3_stairThatJoins_L2, T_n hl R, Option.bind_some, if_pos (Int32.le_refl _)]
    rfl
end RD
