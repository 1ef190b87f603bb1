/-! what is refused, told of the row of numbers -/
/-- the numbers of a staircase of a treaty -/
def St_ (f : Nat → Int32) : Prop := (∃ a b, a < b ∧ b < 8 ∧ f 0 = nI a ∧ f 1 = nI b) ∧ (∃ s, 1 ≤ s ∧ s ≤ 40 ∧ f 2 = nI s) ∧ (∃ d, d ≤ 20 ∧ f 3 = nI d) ∧ (∃ v, v ≤ 3 ∧ f 4 = nI v) ∧ ((f 5 = m1_ ∧ f 6 = nI 0) ∨ ∃ b y, b < 2 ∧ 1 ≤ y ∧ y ≤ 9 ∧ f 5 = nI b ∧ f 6 = nI y)
/-- what holds of every treaty -/
def I_ (T : Nat → Int32) (n : Nat) : Prop := (∃ b, b < 2 ∧ T 3 = nI b) ∧ (∀ i, i < 8 → ∃ o, o < 3 ∧ oT_ T i = nI o) ∧ (∀ b, b < 2 → ∃ a, a < 8 ∧ gT_ T b 1 = nI a ∧ oT_ T a ≠ nI 2) ∧ (∃ c0 c1 c2, c0 + c1 + c2 = 60 ∧ gT_ T 0 0 = nI c0 ∧ gT_ T 1 0 = nI c1 ∧ T 2 = nI c2) ∧ (∀ j, j < n → St_ (sT_ T j)) ∧ (∀ i j, i < j → j < n → ¬ (sT_ T i 0 = sT_ T j 0 ∧ sT_ T i 1 = sT_ T j 1)) ∧ T 4 = gT_ T 0 3 + gT_ T 1 3 ∧ T 6 = gT_ T 0 4 + gT_ T 1 4 ∧ T 7 = gT_ T 0 2 + gT_ T 1 2
abbrev cl_ (x : Int32) : Nat := x.toNatClampNeg
def qG_ (n : Nat) (a s : Int32) (k : Option (Int32 × Int32)) : Option (Int32 × Int32) := if ¬ In_ (nI 0) (nI 1) a then some (nI 2, a) else if ¬ S_ n s then some (nI 2, s) else k
def qrBuild_ (T : Nat → Int32) (n : Nat) (a b s : Int32) : Option (Int32 × Int32) := if ¬ In_ (nI 0) (nI 7) a then some (nI 2, a) else if ¬ In_ (nI 0) (nI 7) b then some (nI 2, b) else if ¬ In_ (nI 1) (nI 40) s then some (nI 3, s) else if a = b then some (nI 4, a) else match qJ_ T n a b with
  | some j => some (nI 5, nI j)
  | none => if n = 10 then some (nI 1, nI 10) else none
def qrTear_ (n : Nat) (s : Int32) : Option (Int32 × Int32) := if ¬ S_ n s then some (nI 2, s) else none
def qrHalve_ (T : Nat → Int32) (n : Nat) (s : Int32) : Option (Int32 × Int32) := if ¬ S_ n s then some (nI 2, s) else if sT_ T (cl_ s) 4 = nI 3 ∨ sT_ T (cl_ s) 2 = nI 1 then some (nI 6, sT_ T (cl_ s) 2) else none
def qrLease_ (T : Nat → Int32) (n : Nat) (a s d : Int32) : Option (Int32 × Int32) := qG_ n a s (if ¬ In_ (nI 1) (nI 9) d then some (nI 3, d) else if nI 0 ≤ sT_ T (cl_ s) 5 then some (nI 7, sT_ T (cl_ s) 6) else none)
def qrClimb_ (T : Nat → Int32) (n : Nat) (a s : Int32) : Option (Int32 × Int32) := qG_ n a s (if ¬ E_ (sT_ T (cl_ s)) (gT_ T (cl_ a) 1) then some (nI 8, gT_ T (cl_ a) 1) else if oT_ T (cl_ (oth_ (sT_ T (cl_ s)) (gT_ T (cl_ a) 1))) = nI 2 then some (nI 9, oth_ (sT_ T (cl_ s)) (gT_ T (cl_ a) 1)) else none)
def qrLevy_ (T : Nat → Int32) (n : Nat) (a s : Int32) : Option (Int32 × Int32) := qG_ n a s (if oT_ T (cl_ (sT_ T (cl_ s) 0)) ≠ a ∧ oT_ T (cl_ (sT_ T (cl_ s) 1)) ≠ a then some (nI 10, s) else if sT_ T (cl_ s) 3 = nI 0 then some (nI 11, sT_ T (cl_ s) 2) else none)
def qX_ (T : Nat → Int32) (n : Nat) (a b : Int32) : Bool := (List.range n).any (fun j => E_ (sT_ T j) a && decide (oT_ T (cl_ (oth_ (sT_ T j) a)) = b))
def price_ (T : Nat → Int32) (a : Nat) : Int32 := if oT_ T a = nI 2 then nI 5 else nI 10
def qrTake_ (T : Nat → Int32) (n : Nat) (a : Int32) : Option (Int32 × Int32) := if ¬ In_ (nI 0) (nI 7) a then some (nI 2, a) else if oT_ T (cl_ a) = T 3 then some (nI 13, T 3) else if qW_ T a ≠ m1_ then some (nI 12, qW_ T a) else if ¬ qX_ T n a (T 3) then some (nI 14, qL_ T (T 3)) else if gT_ T (cl_ (T 3)) 0 < price_ T (cl_ a) then some (nI 15, gT_ T (cl_ (T 3)) 0) else none
def qrFree_ (T : Nat → Int32) (a b : Int32) : Option (Int32 × Int32) := if ¬ In_ (nI 0) (nI 1) a then some (nI 2, a) else if ¬ In_ (nI 0) (nI 7) b then some (nI 2, b) else if oT_ T (cl_ b) ≠ a then some (nI 13, oT_ T (cl_ b)) else if qW_ T b ≠ m1_ then some (nI 12, qW_ T b) else none
theorem cl_nI {j : Nat} (hj : j < 2 ^ 31) : cl_ (nI j) = j := nI_clamp hj
theorem rf_kl : lg_cmp (kl 0) (kl 0) = 0 := by decide
theorem mk_or : ∀ m, m < 256 → ∀ c, c < 8 → nI m ||| (nI 1 <<< (nI c &&& 31)) = nI (m ||| 2 ^ c) := by decide +kernel
theorem mk_bit : ∀ m, m < 256 → ∀ k, k < 8 → (((nI m >>> (nI k &&& 31)) &&& nI 1) = nI 1 ↔ m.testBit k = true) := by decide +kernel
/-- a set of landings, as a mask -/
def mB_ (e : Nat → Bool) (c : Nat → Nat) (n : Nat) : Nat := fo_ (fun j x => if e j then x ||| 2 ^ c j else x) 0 n
theorem mB_lt {e : Nat → Bool} {c : Nat → Nat} : ∀ {n : Nat}, (∀ j, j < n → c j < 8) → mB_ e c n < 256
  | 0, _ => Nat.zero_lt_succ 255
  | n + 1, h => by
    have ih := mB_lt (e := e) (fun j hj => h j (by omega) : ∀ j, j < n → c j < 8)
    show (if e n then mB_ e c n ||| 2 ^ c n else mB_ e c n) < 256
    have h2 : (2 : Nat) ^ c n < 2 ^ 8 := Nat.pow_lt_pow_right (by decide) (h n (by omega))
    split
    · exact Nat.or_lt_two_pow (n := 8) ih h2
    · exact ih
theorem mB_bit {e : Nat → Bool} {c : Nat → Nat} {k : Nat} : ∀ {n : Nat}, (mB_ e c n).testBit k = true ↔ ∃ j, j < n ∧ e j = true ∧ c j = k
  | 0 => by
    show (0 : Nat).testBit k = true ↔ _
    simp
  | n + 1 => by
    have ih := mB_bit (e := e) (c := c) (k := k) (n := n)
    show (if e n then mB_ e c n ||| 2 ^ c n else mB_ e c n).testBit k = true ↔ _
    by_cases he : e n = true
    · rw [if_pos he, Nat.testBit_or, Bool.or_eq_true, ih, Nat.testBit_two_pow]
      constructor
      · rintro (⟨j, h1, h2⟩ | h1)
        · exact ⟨j, by omega, h2⟩
        · exact ⟨n, by omega, he, by simpa using h1⟩
      · rintro ⟨j, h1, h2, h3⟩
        by_cases hj : j = n
        · subst hj
          exact .inr (by simpa using h3)
        · exact .inl ⟨j, by omega, h2, h3⟩
    · rw [if_neg he, ih]
      constructor
      · rintro ⟨j, h1, h2⟩
        exact ⟨j, by omega, h2⟩
      · rintro ⟨j, h1, h2, h3⟩
        by_cases hj : j = n
        · subst hj
          exact absurd h2 he
        · exact ⟨j, by omega, h2, h3⟩
theorem mB_nI {e : Nat → Bool} {c : Nat → Nat} {v : Nat → Int32} : ∀ {n : Nat}, (∀ j, j < n → c j < 8) → (∀ j, j < n → e j = true → v j = nI (c j)) → fo_ (fun j x => if e j = true then x ||| (nI 1 <<< (v j &&& 31)) else x) (nI 0) n = nI (mB_ e c n)
  | 0, _, _ => rfl
  | n + 1, h, hv => by
    have h1 : ∀ j, j < n → c j < 8 := fun j hj => h j (by omega)
    have ih := mB_nI (e := e) (c := c) (v := v) h1 (fun j hj => hv j (by omega))
    show (if e n = true then fo_ _ (nI 0) n ||| _ else fo_ _ (nI 0) n) = nI (if e n then mB_ e c n ||| 2 ^ c n else mB_ e c n)
    rw [ih]
    by_cases he : e n = true
    · rw [if_pos he, if_pos he, hv n (by omega) he, mk_or _ (mB_lt h1) _ (h n (by omega))]
    · rw [if_neg he, if_neg he]
/-- the other end -/
def oc_ (T : Nat → Int32) (a : Int32) (j : Nat) : Nat := if sT_ T j 0 = a then cl_ (sT_ T j 1) else cl_ (sT_ T j 0)
theorem oc_cl (T : Nat → Int32) (a : Int32) (j : Nat) : cl_ (oth_ (sT_ T j) a) = oc_ T a j := by
  unfold oth_ oc_
  split <;> rfl
theorem St_lo {f : Nat → Int32} (h : St_ f) : ∃ a b, a < b ∧ b < 8 ∧ f 0 = nI a ∧ f 1 = nI b := h.1
theorem oc_lt {T : Nat → Int32} {n j : Nat} (I : I_ T n) (hj : j < n) (a : Int32) : oc_ T a j < 8 := by
  obtain ⟨x, y, h1, h2, e1, e2⟩ := St_lo (I.2.2.2.2.1 j hj)
  unfold oc_
  rw [e1, e2, cl_nI (by omega), cl_nI (by omega)]
  split <;> omega
theorem oth_nI {T : Nat → Int32} {n j : Nat} (I : I_ T n) (hj : j < n) (a : Int32) : oth_ (sT_ T j) a = nI (oc_ T a j) := by
  obtain ⟨x, y, h1, h2, e1, e2⟩ := St_lo (I.2.2.2.2.1 j hj)
  unfold oth_ oc_
  rw [e1, e2, cl_nI (by omega), cl_nI (by omega)]
  split <;> rfl
def mq_ (T : Nat → Int32) (n : Nat) (a : Int32) : Nat := mB_ (fun j => E_ (sT_ T j) a) (oc_ T a) n
theorem qB_nI {T : Nat → Int32} {n : Nat} (I : I_ T n) (a : Int32) : qB_ T n a = nI (mq_ T n a) ∧ mq_ T n a < 256 :=
  ⟨mB_nI (fun j hj => oc_lt I hj a) (fun j hj _ => oth_nI I hj a), mB_lt (fun j hj => oc_lt I hj a)⟩
theorem qX_iff {T : Nat → Int32} {n : Nat} {a b : Int32} : qX_ T n a b = true ↔ ∃ k, (mq_ T n a).testBit k = true ∧ oT_ T k = b := by
  unfold qX_ mq_
  simp only [List.any_eq_true, List.mem_range, Bool.and_eq_true, decide_eq_true_eq, oc_cl, mB_bit]
  constructor
  · rintro ⟨j, h1, h2, h3⟩
    exact ⟨_, ⟨j, h1, h2, rfl⟩, h3⟩
  · rintro ⟨k, ⟨j, h1, h2, rfl⟩, h3⟩
    exact ⟨j, h1, h2, h3⟩
section NR
variable {l g : Nat → Nat} {w : Nat → Nat → Int32} {h : mm_S} {i k j b n : Nat} {v : Int32} {T : Nat → Int32}
theorem T_nTear (hl : ov_L 16 l h) (R : R_ g w T n) (x : Int32) : F_X3_whyNotTear (tv_ l g w h) (l 0) x = some (rL_ (qrTear_ n x)) := by
  unfold F_X3_whyNotTear qrTear_
  simp only [T_n hl R, T_t hl R, T_c hl R, T_d hl R, T_v hl R, T_k hl R, T_h hl R, tv_r0 hl, tv_r1 hl, tv_r2 hl, tv_is hl, Option.bind_some, kk_m2, kk_m3, kk_n1, kj_i0, kj_l0, kj_i1, kj_l1, kj_i2, kj_l2, kj_i3, kj_l3, kj_i4, kj_l4, kj_i5, kj_l5, kj_i6, kj_l6, kj_i7, kj_l7, kj_i8, kj_l8, kj_i9, kj_l9, kj_i10, kj_l10, kj_i11, kj_l11, kj_i12, kj_l12, kj_i13, kj_l13, kj_i14, kj_l14, kj_i15, kj_l15, kj_i16, kj_l16, kk_b6, kk_b7, kk_b8, kk_b9, kk_b10, kk_b11, kk_b12, kk_b13, kk_b14, kk_b15, kk_b16, kk_b20, kk_b40, nI_add, c_in, c_isL, c_isG, c_rf, T_isS hl R, bI_n, ne_eq, Decidable.not_not]
  by_cases hx : S_ n x <;> simp [hx, rL_]
theorem T_nGS (hl : ov_L 16 l h) (R : R_ g w T n) (a x : Int32) : F_X3_whyNoGiantOrStair (tv_ l g w h) (l 0) a x = some (rL_ (qG_ n a x none)) := by
  unfold F_X3_whyNoGiantOrStair qG_
  simp only [T_n hl R, T_t hl R, T_c hl R, T_d hl R, T_v hl R, T_k hl R, T_h hl R, tv_r0 hl, tv_r1 hl, tv_r2 hl, tv_is hl, Option.bind_some, kk_m2, kk_m3, kk_n1, kj_i0, kj_l0, kj_i1, kj_l1, kj_i2, kj_l2, kj_i3, kj_l3, kj_i4, kj_l4, kj_i5, kj_l5, kj_i6, kj_l6, kj_i7, kj_l7, kj_i8, kj_l8, kj_i9, kj_l9, kj_i10, kj_l10, kj_i11, kj_l11, kj_i12, kj_l12, kj_i13, kj_l13, kj_i14, kj_l14, kj_i15, kj_l15, kj_i16, kj_l16, kk_b6, kk_b7, kk_b8, kk_b9, kk_b10, kk_b11, kk_b12, kk_b13, kk_b14, kk_b15, kk_b16, kk_b20, kk_b40, nI_add, c_in, c_isL, c_isG, c_rf, T_isS hl R, bI_n, ne_eq, Decidable.not_not]
  by_cases ha : In_ (nI 0) (nI 1) a
  · by_cases hx : S_ n x <;> simp [ha, hx, rL_]
  · simp [ha, rL_]
theorem T_nHalve (hl : ov_L 16 l h) (R : R_ g w T n) (I : I_ T n) (x : Int32) : F_X3_whyNotHalve (tv_ l g w h) (l 0) x = some (rL_ (qrHalve_ T n x)) := by
  have hn := R_n R
  unfold F_X3_whyNotHalve qrHalve_
  simp only [T_n hl R, T_t hl R, T_c hl R, T_d hl R, T_v hl R, T_k hl R, T_h hl R, tv_r0 hl, tv_r1 hl, tv_r2 hl, tv_is hl, Option.bind_some, kk_m2, kk_m3, kk_n1, kj_i0, kj_l0, kj_i1, kj_l1, kj_i2, kj_l2, kj_i3, kj_l3, kj_i4, kj_l4, kj_i5, kj_l5, kj_i6, kj_l6, kj_i7, kj_l7, kj_i8, kj_l8, kj_i9, kj_l9, kj_i10, kj_l10, kj_i11, kj_l11, kj_i12, kj_l12, kj_i13, kj_l13, kj_i14, kj_l14, kj_i15, kj_l15, kj_i16, kj_l16, kk_b6, kk_b7, kk_b8, kk_b9, kk_b10, kk_b11, kk_b12, kk_b13, kk_b14, kk_b15, kk_b16, kk_b20, kk_b40, nI_add, c_in, c_isL, c_isG, c_rf, T_isS hl R, bI_n, ne_eq, Decidable.not_not]
  by_cases hx : S_ n x
  · obtain ⟨j, hj, rfl⟩ := S_of hn hx
    obtain ⟨-, -, -, ⟨v, hv, ev⟩, -⟩ := I.2.2.2.2.1 j hj
    simp only [hx, T_aS hl R hj, T_S hl R hj (show 2 < 7 by decide), T_S hl R hj (show 4 < 7 by decide), cl_nI (show j < 2 ^ 31 by omega), T_n hl R, T_t hl R, T_c hl R, T_d hl R, T_v hl R, T_k hl R, T_h hl R, tv_r0 hl, tv_r1 hl, tv_r2 hl, tv_is hl, Option.bind_some, kk_m2, kk_m3, kk_n1, kj_i0, kj_l0, kj_i1, kj_l1, kj_i2, kj_l2, kj_i3, kj_l3, kj_i4, kj_l4, kj_i5, kj_l5, kj_i6, kj_l6, kj_i7, kj_l7, kj_i8, kj_l8, kj_i9, kj_l9, kj_i10, kj_l10, kj_i11, kj_l11, kj_i12, kj_l12, kj_i13, kj_l13, kj_i14, kj_l14, kj_i15, kj_l15, kj_i16, kj_l16, kk_b6, kk_b7, kk_b8, kk_b9, kk_b10, kk_b11, kk_b12, kk_b13, kk_b14, kk_b15, kk_b16, kk_b20, kk_b40, nI_add, c_in, c_isL, c_isG, c_rf, T_isS hl R, bI_n, ne_eq, Decidable.not_not, not_true_eq_false, if_true, if_false, ev, nI_leI (show 3 < 2 ^ 31 by decide) (show v < 2 ^ 31 by omega), nI_eq (show v < 2 ^ 31 by omega) (show 3 < 2 ^ 31 by decide)]
    by_cases h3 : v = 3
    · subst h3
      simp [rL_]
    · have h4 : ¬ 3 ≤ v := by omega
      by_cases h5 : sT_ T j 2 = nI 1 <;> simp [h3, h4, h5, rL_]
  · simp [hx, rL_]
theorem T_X (hl : ov_L 16 l h) (R : R_ g w T n) (I : I_ T n) (a b : Int32) : F_X3_isNextTo (tv_ l g w h) (l 0) a b = some (bI_ (qX_ T n a b)) := by
  obtain ⟨eB, hB⟩ := qB_nI I a
  have hm := fun k => (mB_bit (e := fun j => E_ (sT_ T j) a) (c := oc_ T a) (k := k) (n := n))
  unfold F_X3_isNextTo
  rw [tv_is hl, Option.bind_some, T_B hl R, Option.bind_some, eB]
  have key := lp_d (n := 8) (f := fun m i => F_X3_isNextTo_L9 (tv_ l g w h) m (l 0) b (nI (mq_ T n a)) (nI i)) (fun k => (mq_ T n a).testBit k && decide (oT_ T k = b)) (fun _ => .inl (nI 1)) (fun m i hi => by
    rw [F_X3_isNextTo_L9, kk_b8, if_neg (nI_ge hi (by decide))]
    simp only [T_n hl R, T_t hl R, T_c hl R, T_d hl R, T_v hl R, T_k hl R, T_h hl R, tv_r0 hl, tv_r1 hl, tv_r2 hl, tv_is hl, Option.bind_some, kk_m2, kk_m3, kk_n1, kj_i0, kj_l0, kj_i1, kj_l1, kj_i2, kj_l2, kj_i3, kj_l3, kj_i4, kj_l4, kj_i5, kj_l5, kj_i6, kj_l6, kj_i7, kj_l7, kj_i8, kj_l8, kj_i9, kj_l9, kj_i10, kj_l10, kj_i11, kj_l11, kj_i12, kj_l12, kj_i13, kj_l13, kj_i14, kj_l14, kj_i15, kj_l15, kj_i16, kj_l16, kk_b6, kk_b7, kk_b8, kk_b9, kk_b10, kk_b11, kk_b12, kk_b13, kk_b14, kk_b15, kk_b16, kk_b20, kk_b40, nI_add, c_in, c_isL, c_isG, c_rf, T_isS hl R, bI_n, ne_eq, Decidable.not_not, T_O hl R hi]
    by_cases h1 : (mq_ T n a).testBit i = true
    · rw [if_neg (fun q => q ((mk_bit _ hB i hi).mpr h1))]
      by_cases h2 : oT_ T i = b <;> simp [h1, h2]
    · rw [if_pos (fun q => h1 ((mk_bit _ hB i hi).mp q))]
      simp [h1]) 1000 (by omega)
  rw [show ki 0 = nI 0 from rfl, key]
  cases e : (List.range 8).find? (fun k => (mq_ T n a).testBit k && decide (oT_ T k = b)) with
  | some k =>
    have h1 := List.find?_some e
    rw [Bool.and_eq_true, decide_eq_true_eq] at h1
    rw [bI_t (qX_iff.mpr ⟨k, h1⟩)]
    rfl
  | none =>
    have h1 : ¬ qX_ T n a b = true := fun q => by
      obtain ⟨k, h2, h3⟩ := qX_iff.mp q
      obtain ⟨j, hj, -, hk⟩ := (hm k).mp h2
      have h4 := List.find?_eq_none.mp e k (List.mem_range.mpr (hk ▸ oc_lt I hj a))
      rw [h2, h3] at h4
      simp at h4
    rw [bI_f h1]
    dsimp only
    rw [show 1000 - 8 = 991 + 1 from rfl, F_X3_isNextTo_L9, kk_b8, if_pos (Int32.le_refl _)]
    rfl
theorem qG_some {n : Nat} {a x : Int32} {k : Option (Int32 × Int32)} (h : ¬ (In_ (nI 0) (nI 1) a = true ∧ S_ n x = true)) : ∃ q, qG_ n a x none = some q ∧ qG_ n a x k = some q := by
  unfold qG_
  by_cases ha : In_ (nI 0) (nI 1) a = true
  · by_cases hx : S_ n x = true
    · exact absurd ⟨ha, hx⟩ h
    · simp [ha, hx]
  · simp [ha]
theorem qG_in {n : Nat} {a x : Int32} {k : Option (Int32 × Int32)} (ha : In_ (nI 0) (nI 1) a = true) (hx : S_ n x = true) : qG_ n a x k = k := by
  unfold qG_
  simp [ha, hx]
theorem qG_c {n : Nat} {a x : Int32} {q : Int32 × Int32} (e : qG_ n a x none = some q) : q.1 = nI 2 := by
  unfold qG_ at e
  split at e
  · cases e
    rfl
  · split at e
    · cases e
      rfl
    · cases e
theorem rf_2 (x : Int32) : ¬ lg_cmp (rf_ (nI 2) x) (kl 0) = nI 0 := rf_ne x (by decide)
theorem T_nLease (hl : ov_L 16 l h) (R : R_ g w T n) (I : I_ T n) (a x d : Int32) : F_X3_whyNotLease (tv_ l g w h) (l 0) a x d = some (rL_ (qrLease_ T n a x d)) := by
  have hn := R_n R
  unfold F_X3_whyNotLease qrLease_
  simp only [T_n hl R, T_t hl R, T_c hl R, T_d hl R, T_v hl R, T_k hl R, T_h hl R, tv_r0 hl, tv_r1 hl, tv_r2 hl, tv_is hl, Option.bind_some, kk_m2, kk_m3, kk_n1, kj_i0, kj_l0, kj_i1, kj_l1, kj_i2, kj_l2, kj_i3, kj_l3, kj_i4, kj_l4, kj_i5, kj_l5, kj_i6, kj_l6, kj_i7, kj_l7, kj_i8, kj_l8, kj_i9, kj_l9, kj_i10, kj_l10, kj_i11, kj_l11, kj_i12, kj_l12, kj_i13, kj_l13, kj_i14, kj_l14, kj_i15, kj_l15, kj_i16, kj_l16, kk_b6, kk_b7, kk_b8, kk_b9, kk_b10, kk_b11, kk_b12, kk_b13, kk_b14, kk_b15, kk_b16, kk_b20, kk_b40, nI_add, c_in, c_isL, c_isG, c_rf, T_isS hl R, bI_n, ne_eq, Decidable.not_not, T_nGS hl R]
  by_cases hc : In_ (nI 0) (nI 1) a = true ∧ S_ n x = true
  · obtain ⟨b, hb, rfl⟩ := In_of (by decide) hc.1
    obtain ⟨j, hj, rfl⟩ := S_of hn hc.2
    rw [qG_in hc.1 hc.2, qG_in hc.1 hc.2]
    have hs := (I.2.2.2.2.1 j hj).2.2.2.2
    simp only [rL_, rf_kl, kj_l0, if_true, T_aS hl R hj, T_is hl R hj, T_leased hl R hj, T_S hl R hj (show 5 < 7 by decide), T_S hl R hj (show 6 < 7 by decide), T_n hl R, T_t hl R, T_c hl R, T_d hl R, T_v hl R, T_k hl R, T_h hl R, tv_r0 hl, tv_r1 hl, tv_r2 hl, tv_is hl, Option.bind_some, kk_m2, kk_m3, kk_n1, kj_i0, kj_l0, kj_i1, kj_l1, kj_i2, kj_l2, kj_i3, kj_l3, kj_i4, kj_l4, kj_i5, kj_l5, kj_i6, kj_l6, kj_i7, kj_l7, kj_i8, kj_l8, kj_i9, kj_l9, kj_i10, kj_l10, kj_i11, kj_l11, kj_i12, kj_l12, kj_i13, kj_l13, kj_i14, kj_l14, kj_i15, kj_l15, kj_i16, kj_l16, kk_b6, kk_b7, kk_b8, kk_b9, kk_b10, kk_b11, kk_b12, kk_b13, kk_b14, kk_b15, kk_b16, kk_b20, kk_b40, nI_add, c_in, c_isL, c_isG, c_rf, T_isS hl R, bI_n, ne_eq, Decidable.not_not, cl_nI (show j < 2 ^ 31 by omega)]
    by_cases hd : In_ (nI 1) (nI 9) d = true
    · rcases hs with ⟨e5, e6⟩ | ⟨b5, y, h1, h2, h3, e5, e6⟩
      · simp [hd, e5, e6, show In_ (nI 0) (nI 1) m1_ = false by decide, show ¬ nI 0 ≤ m1_ by decide]
      · simp [hd, e5, e6, (In_nI (m := 1) (by decide) (show b5 < 2 ^ 31 by omega)).mpr (by omega), show nI 0 ≤ nI b5 from nI_pos' (show b5 < 2 ^ 31 by omega)]
    · simp [hd]
  · obtain ⟨q, e1, e2⟩ := qG_some (k := if ¬ In_ (nI 1) (nI 9) d then some (nI 3, d) else if nI 0 ≤ sT_ T (cl_ x) 5 then some (nI 7, sT_ T (cl_ x) 6) else none) hc
    have e3 := qG_c e1
    obtain ⟨c, y⟩ := q
    dsimp only at e3
    subst e3
    rw [e1, e2]
    simp [rL_, rf_2 y]
theorem T_nClimb (hl : ov_L 16 l h) (R : R_ g w T n) (I : I_ T n) (a x : Int32) : F_X3_whyNotClimb (tv_ l g w h) (l 0) a x = some (rL_ (qrClimb_ T n a x)) := by
  have hn := R_n R
  unfold F_X3_whyNotClimb qrClimb_
  simp only [T_n hl R, T_t hl R, T_c hl R, T_d hl R, T_v hl R, T_k hl R, T_h hl R, tv_r0 hl, tv_r1 hl, tv_r2 hl, tv_is hl, Option.bind_some, kk_m2, kk_m3, kk_n1, kj_i0, kj_l0, kj_i1, kj_l1, kj_i2, kj_l2, kj_i3, kj_l3, kj_i4, kj_l4, kj_i5, kj_l5, kj_i6, kj_l6, kj_i7, kj_l7, kj_i8, kj_l8, kj_i9, kj_l9, kj_i10, kj_l10, kj_i11, kj_l11, kj_i12, kj_l12, kj_i13, kj_l13, kj_i14, kj_l14, kj_i15, kj_l15, kj_i16, kj_l16, kk_b6, kk_b7, kk_b8, kk_b9, kk_b10, kk_b11, kk_b12, kk_b13, kk_b14, kk_b15, kk_b16, kk_b20, kk_b40, nI_add, c_in, c_isL, c_isG, c_rf, T_isS hl R, bI_n, ne_eq, Decidable.not_not, T_nGS hl R]
  by_cases hc : In_ (nI 0) (nI 1) a = true ∧ S_ n x = true
  · obtain ⟨b, hb, rfl⟩ := In_of (by decide) hc.1
    obtain ⟨j, hj, rfl⟩ := S_of hn hc.2
    rw [qG_in hc.1 hc.2, qG_in hc.1 hc.2]
    have ho := oth_nI I hj (gT_ T b 1)
    have ho2 := oc_lt I hj (gT_ T b 1)
    simp only [rL_, rf_kl, kj_l0, if_true, tv_aG hl (show b < 2 by omega), T_G hl R (show b < 2 by omega) (show 1 < 5 by decide), T_aS hl R hj, T_is hl R hj, T_E hl R hj, T_oth hl R hj, T_n hl R, T_t hl R, T_c hl R, T_d hl R, T_v hl R, T_k hl R, T_h hl R, tv_r0 hl, tv_r1 hl, tv_r2 hl, tv_is hl, Option.bind_some, kk_m2, kk_m3, kk_n1, kj_i0, kj_l0, kj_i1, kj_l1, kj_i2, kj_l2, kj_i3, kj_l3, kj_i4, kj_l4, kj_i5, kj_l5, kj_i6, kj_l6, kj_i7, kj_l7, kj_i8, kj_l8, kj_i9, kj_l9, kj_i10, kj_l10, kj_i11, kj_l11, kj_i12, kj_l12, kj_i13, kj_l13, kj_i14, kj_l14, kj_i15, kj_l15, kj_i16, kj_l16, kk_b6, kk_b7, kk_b8, kk_b9, kk_b10, kk_b11, kk_b12, kk_b13, kk_b14, kk_b15, kk_b16, kk_b20, kk_b40, nI_add, c_in, c_isL, c_isG, c_rf, T_isS hl R, bI_n, ne_eq, Decidable.not_not, cl_nI (show j < 2 ^ 31 by omega), cl_nI (show b < 2 ^ 31 by omega)]
    by_cases he : E_ (sT_ T j) (gT_ T b 1) = true
    · simp only [ho, T_O hl R ho2, cl_nI (show oc_ T (gT_ T b 1) j < 2 ^ 31 by omega), Option.bind_some]
      by_cases h2 : oT_ T (oc_ T (gT_ T b 1) j) = nI 2 <;> simp [he, h2]
    · simp [he]
  · obtain ⟨q, e1, e2⟩ := qG_some (k := if ¬ E_ (sT_ T (cl_ x)) (gT_ T (cl_ a) 1) then some (nI 8, gT_ T (cl_ a) 1) else if oT_ T (cl_ (oth_ (sT_ T (cl_ x)) (gT_ T (cl_ a) 1))) = nI 2 then some (nI 9, oth_ (sT_ T (cl_ x)) (gT_ T (cl_ a) 1)) else none) hc
    have e3 := qG_c e1
    obtain ⟨c, y⟩ := q
    dsimp only at e3
    subst e3
    rw [e1, e2]
    simp [rL_, rf_2 y]
theorem T_nLevy (hl : ov_L 16 l h) (R : R_ g w T n) (I : I_ T n) (a x : Int32) : F_X3_whyNotLevy (tv_ l g w h) (l 0) a x = some (rL_ (qrLevy_ T n a x)) := by
  have hn := R_n R
  unfold F_X3_whyNotLevy qrLevy_
  simp only [T_n hl R, T_t hl R, T_c hl R, T_d hl R, T_v hl R, T_k hl R, T_h hl R, tv_r0 hl, tv_r1 hl, tv_r2 hl, tv_is hl, Option.bind_some, kk_m2, kk_m3, kk_n1, kj_i0, kj_l0, kj_i1, kj_l1, kj_i2, kj_l2, kj_i3, kj_l3, kj_i4, kj_l4, kj_i5, kj_l5, kj_i6, kj_l6, kj_i7, kj_l7, kj_i8, kj_l8, kj_i9, kj_l9, kj_i10, kj_l10, kj_i11, kj_l11, kj_i12, kj_l12, kj_i13, kj_l13, kj_i14, kj_l14, kj_i15, kj_l15, kj_i16, kj_l16, kk_b6, kk_b7, kk_b8, kk_b9, kk_b10, kk_b11, kk_b12, kk_b13, kk_b14, kk_b15, kk_b16, kk_b20, kk_b40, nI_add, c_in, c_isL, c_isG, c_rf, T_isS hl R, bI_n, ne_eq, Decidable.not_not, T_nGS hl R]
  by_cases hc : In_ (nI 0) (nI 1) a = true ∧ S_ n x = true
  · obtain ⟨b, hb, rfl⟩ := In_of (by decide) hc.1
    obtain ⟨j, hj, rfl⟩ := S_of hn hc.2
    rw [qG_in hc.1 hc.2, qG_in hc.1 hc.2]
    obtain ⟨p, q, h1, h2, ep, eq⟩ := St_lo (I.2.2.2.2.1 j hj)
    simp only [rL_, rf_kl, kj_l0, if_true, T_aS hl R hj, T_S hl R hj (show 0 < 7 by decide), T_S hl R hj (show 1 < 7 by decide), T_S hl R hj (show 2 < 7 by decide), T_S hl R hj (show 3 < 7 by decide), ep, eq, T_O hl R (show p < 8 by omega), T_O hl R (show q < 8 by omega), T_n hl R, T_t hl R, T_c hl R, T_d hl R, T_v hl R, T_k hl R, T_h hl R, tv_r0 hl, tv_r1 hl, tv_r2 hl, tv_is hl, Option.bind_some, kk_m2, kk_m3, kk_n1, kj_i0, kj_l0, kj_i1, kj_l1, kj_i2, kj_l2, kj_i3, kj_l3, kj_i4, kj_l4, kj_i5, kj_l5, kj_i6, kj_l6, kj_i7, kj_l7, kj_i8, kj_l8, kj_i9, kj_l9, kj_i10, kj_l10, kj_i11, kj_l11, kj_i12, kj_l12, kj_i13, kj_l13, kj_i14, kj_l14, kj_i15, kj_l15, kj_i16, kj_l16, kk_b6, kk_b7, kk_b8, kk_b9, kk_b10, kk_b11, kk_b12, kk_b13, kk_b14, kk_b15, kk_b16, kk_b20, kk_b40, nI_add, c_in, c_isL, c_isG, c_rf, T_isS hl R, bI_n, ne_eq, Decidable.not_not, cl_nI (show j < 2 ^ 31 by omega), cl_nI (show p < 2 ^ 31 by omega), cl_nI (show q < 2 ^ 31 by omega)]
    by_cases h3 : oT_ T p = nI b
    · by_cases h5 : sT_ T j 3 = nI 0 <;> simp [h3, h5]
    · by_cases h4 : oT_ T q = nI b
      · by_cases h5 : sT_ T j 3 = nI 0 <;> simp [h3, h4, h5]
      · simp [h3, h4]
  · obtain ⟨q, e1, e2⟩ := qG_some (k := if oT_ T (cl_ (sT_ T (cl_ x) 0)) ≠ a ∧ oT_ T (cl_ (sT_ T (cl_ x) 1)) ≠ a then some (nI 10, x) else if sT_ T (cl_ x) 3 = nI 0 then some (nI 11, sT_ T (cl_ x) 2) else none) hc
    have e3 := qG_c e1
    obtain ⟨c, y⟩ := q
    dsimp only at e3
    subst e3
    rw [e1, e2]
    simp [rL_, rf_2 y]
theorem T_nFree (hl : ov_L 16 l h) (R : R_ g w T n) (a x : Int32) : F_X3_whyNotFree (tv_ l g w h) (l 0) a x = some (rL_ (qrFree_ T a x)) := by
  unfold F_X3_whyNotFree qrFree_
  simp only [T_n hl R, T_t hl R, T_c hl R, T_d hl R, T_v hl R, T_k hl R, T_h hl R, tv_r0 hl, tv_r1 hl, tv_r2 hl, tv_is hl, Option.bind_some, kk_m2, kk_m3, kk_n1, kj_i0, kj_l0, kj_i1, kj_l1, kj_i2, kj_l2, kj_i3, kj_l3, kj_i4, kj_l4, kj_i5, kj_l5, kj_i6, kj_l6, kj_i7, kj_l7, kj_i8, kj_l8, kj_i9, kj_l9, kj_i10, kj_l10, kj_i11, kj_l11, kj_i12, kj_l12, kj_i13, kj_l13, kj_i14, kj_l14, kj_i15, kj_l15, kj_i16, kj_l16, kk_b6, kk_b7, kk_b8, kk_b9, kk_b10, kk_b11, kk_b12, kk_b13, kk_b14, kk_b15, kk_b16, kk_b20, kk_b40, nI_add, c_in, c_isL, c_isG, c_rf, T_isS hl R, bI_n, ne_eq, Decidable.not_not, T_W hl R]
  by_cases ha : In_ (nI 0) (nI 1) a = true
  · by_cases hx : In_ (nI 0) (nI 7) x = true
    · obtain ⟨j, hj, rfl⟩ := In_of (by decide) hx
      simp only [T_O hl R (show j < 8 by omega), cl_nI (show j < 2 ^ 31 by omega), T_n hl R, T_t hl R, T_c hl R, T_d hl R, T_v hl R, T_k hl R, T_h hl R, tv_r0 hl, tv_r1 hl, tv_r2 hl, tv_is hl, Option.bind_some, kk_m2, kk_m3, kk_n1, kj_i0, kj_l0, kj_i1, kj_l1, kj_i2, kj_l2, kj_i3, kj_l3, kj_i4, kj_l4, kj_i5, kj_l5, kj_i6, kj_l6, kj_i7, kj_l7, kj_i8, kj_l8, kj_i9, kj_l9, kj_i10, kj_l10, kj_i11, kj_l11, kj_i12, kj_l12, kj_i13, kj_l13, kj_i14, kj_l14, kj_i15, kj_l15, kj_i16, kj_l16, kk_b6, kk_b7, kk_b8, kk_b9, kk_b10, kk_b11, kk_b12, kk_b13, kk_b14, kk_b15, kk_b16, kk_b20, kk_b40, nI_add, c_in, c_isL, c_isG, c_rf, T_isS hl R, bI_n, ne_eq, Decidable.not_not]
      by_cases h1 : oT_ T j = a
      · by_cases h2 : qW_ T (nI j) = m1_ <;> simp [ha, hx, h1, h2, rL_]
      · simp [ha, hx, h1, rL_]
    · simp [ha, hx, rL_]
  · simp [ha, rL_]
theorem T_nTake (hl : ov_L 16 l h) (R : R_ g w T n) (I : I_ T n) (x : Int32) : F_X3_whyNotTake (tv_ l g w h) (l 0) x = some (rL_ (qrTake_ T n x)) := by
  obtain ⟨b, hb, eb⟩ := I.1
  unfold F_X3_whyNotTake qrTake_
  simp only [T_n hl R, T_t hl R, T_c hl R, T_d hl R, T_v hl R, T_k hl R, T_h hl R, tv_r0 hl, tv_r1 hl, tv_r2 hl, tv_is hl, Option.bind_some, kk_m2, kk_m3, kk_n1, kj_i0, kj_l0, kj_i1, kj_l1, kj_i2, kj_l2, kj_i3, kj_l3, kj_i4, kj_l4, kj_i5, kj_l5, kj_i6, kj_l6, kj_i7, kj_l7, kj_i8, kj_l8, kj_i9, kj_l9, kj_i10, kj_l10, kj_i11, kj_l11, kj_i12, kj_l12, kj_i13, kj_l13, kj_i14, kj_l14, kj_i15, kj_l15, kj_i16, kj_l16, kk_b6, kk_b7, kk_b8, kk_b9, kk_b10, kk_b11, kk_b12, kk_b13, kk_b14, kk_b15, kk_b16, kk_b20, kk_b40, nI_add, c_in, c_isL, c_isG, c_rf, T_isS hl R, bI_n, ne_eq, Decidable.not_not, T_W hl R, T_X hl R I, T_L hl R]
  by_cases hx : In_ (nI 0) (nI 7) x = true
  · obtain ⟨j, hj, rfl⟩ := In_of (by decide) hx
    have hp := T_price hl R (show j < 8 by omega)
    simp only [T_O hl R (show j < 8 by omega), cl_nI (show j < 2 ^ 31 by omega), hp, eb, tv_aG hl hb, T_G hl R hb (show 0 < 5 by decide), cl_nI (show b < 2 ^ 31 by omega), T_n hl R, T_t hl R, T_c hl R, T_d hl R, T_v hl R, T_k hl R, T_h hl R, tv_r0 hl, tv_r1 hl, tv_r2 hl, tv_is hl, Option.bind_some, kk_m2, kk_m3, kk_n1, kj_i0, kj_l0, kj_i1, kj_l1, kj_i2, kj_l2, kj_i3, kj_l3, kj_i4, kj_l4, kj_i5, kj_l5, kj_i6, kj_l6, kj_i7, kj_l7, kj_i8, kj_l8, kj_i9, kj_l9, kj_i10, kj_l10, kj_i11, kj_l11, kj_i12, kj_l12, kj_i13, kj_l13, kj_i14, kj_l14, kj_i15, kj_l15, kj_i16, kj_l16, kk_b6, kk_b7, kk_b8, kk_b9, kk_b10, kk_b11, kk_b12, kk_b13, kk_b14, kk_b15, kk_b16, kk_b20, kk_b40, nI_add, c_in, c_isL, c_isG, c_rf, T_isS hl R, bI_n, ne_eq, Decidable.not_not]
    by_cases h1 : oT_ T j = nI b
    · simp [hx, h1, rL_]
    · by_cases h2 : qW_ T (nI j) = m1_
      · by_cases h3 : qX_ T n (nI j) (nI b) = true
        · by_cases h4 : gT_ T b 0 < price_ T j
          · have h5 : ¬ price_ T j ≤ gT_ T b 0 := Int32.not_le.mpr h4
            unfold price_ at h4 h5 ⊢
            generalize (if oT_ T j = nI 2 then nI 5 else nI 10) = pr at h4 h5 ⊢
            simp [hx, h1, h2, h3, rL_, h4, h5]
          · have h5 : price_ T j ≤ gT_ T b 0 := Int32.not_lt.mp h4
            unfold price_ at h4 h5 ⊢
            generalize (if oT_ T j = nI 2 then nI 5 else nI 10) = pr at h4 h5 ⊢
            simp [hx, h1, h2, h3, rL_, h4, h5]
        · simp [hx, h1, h2, h3, rL_]
      · simp [hx, h1, h2, rL_]
  · simp [hx, rL_]
theorem T_nBuild (hl : ov_L 16 l h) (R : R_ g w T n) (a b s : Int32) : F_X3_whyNotBuild (tv_ l g w h) (l 0) a b s = some (rL_ (qrBuild_ T n a b s)) := by
  have hn := R_n R
  unfold F_X3_whyNotBuild qrBuild_
  simp only [T_n hl R, T_t hl R, T_c hl R, T_d hl R, T_v hl R, T_k hl R, T_h hl R, tv_r0 hl, tv_r1 hl, tv_r2 hl, tv_is hl, Option.bind_some, kk_m2, kk_m3, kk_n1, kj_i0, kj_l0, kj_i1, kj_l1, kj_i2, kj_l2, kj_i3, kj_l3, kj_i4, kj_l4, kj_i5, kj_l5, kj_i6, kj_l6, kj_i7, kj_l7, kj_i8, kj_l8, kj_i9, kj_l9, kj_i10, kj_l10, kj_i11, kj_l11, kj_i12, kj_l12, kj_i13, kj_l13, kj_i14, kj_l14, kj_i15, kj_l15, kj_i16, kj_l16, kk_b6, kk_b7, kk_b8, kk_b9, kk_b10, kk_b11, kk_b12, kk_b13, kk_b14, kk_b15, kk_b16, kk_b20, kk_b40, nI_add, c_in, c_isL, c_isG, c_rf, T_isS hl R, bI_n, ne_eq, Decidable.not_not, T_join hl R]
  by_cases ha : In_ (nI 0) (nI 7) a = true
  · by_cases hb : In_ (nI 0) (nI 7) b = true
    · by_cases hs : In_ (nI 1) (nI 40) s = true
      · by_cases h1 : a = b
        · simp [ha, hb, hs, h1, rL_]
        · cases e : qJ_ T n a b with
          | some j =>
            have hj : j < n := List.mem_range.mp (List.mem_of_find?_eq_some e)
            have h2 : ¬ nI j = m1_ := fun q => absurd (congrArg Int32.toInt q) (by rw [nI_toInt (by omega)]; show ¬ (j : Int) = -1; omega)
            simp [ha, hb, hs, h1, oI_, h2, rL_]
          | none =>
            by_cases h3 : n = 10
            · subst h3
              simp [ha, hb, hs, h1, oI_, rL_]
            · have h4 : nI n < nI 10 := nI_lt (by omega) (by decide)
              simp [ha, hb, hs, h1, oI_, h3, h4, rL_]
      · simp [ha, hb, hs, rL_]
    · simp [ha, hb, rL_]
  · simp [ha, rL_]
end NR
