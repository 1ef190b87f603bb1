/-! the ways of the class: thirteen cells -/
def yc_ (l : Nat → Nat) (y : Nat → Nat → Int32) (i : Nat) : mm_Ce := match i with
  | 0 => .inr (4, [.ref (l 1), .ref (l 2), .ref (l 3), .ref (l 4)])
  | 1 => .inl (0, 8, .inl (y 1))
  | 2 => .inl (1, 8, .inl (y 2))
  | 3 => .inl (0, 8, .inl (y 3))
  | 4 => .inl (8, 8, .inr (.inr (.inr (.inr (aR_ 8 (fun k => l (k + 5)))))))
  | i + 5 => .inl (0, 8, .inl (y (i + 5)))
def yv_ (l : Nat → Nat) (y : Nat → Nat → Int32) (h : mm_S) : mm_S := ov_ 13 (yc_ l y) l h
/-- a whole row changed -/
def yr_ (y : Nat → Nat → Int32) (i : Nat) (f : Nat → Int32) : Nat → Nat → Int32 := fun a => if a = i then f else y a
theorem yr_at {y : Nat → Nat → Int32} {i : Nat} {f : Nat → Int32} : yr_ y i f i = f := if_pos rfl
theorem yr_ne {y : Nat → Nat → Int32} {i a : Nat} {f : Nat → Int32} (h : a ≠ i) : yr_ y i f a = y a := if_neg h
theorem yr_yr {y : Nat → Nat → Int32} {i : Nat} {f f2 : Nat → Int32} : yr_ (yr_ y i f) i f2 = yr_ y i f2 := by
  funext a
  unfold yr_
  split <;> rfl
theorem yr_id {y : Nat → Nat → Int32} {i : Nat} : yr_ y i (y i) = y := by
  funext a
  unfold yr_
  split
  · next e => rw [e]
  · rfl
theorem yr_c {y : Nat → Nat → Int32} {i j : Nat} {f f2 : Nat → Int32} (h : i ≠ j) : yr_ (yr_ y i f) j f2 = yr_ (yr_ y j f2) i f := by
  funext a
  unfold yr_
  by_cases h1 : a = i
  · by_cases h2 : a = j
    · exact absurd (h1.symm.trans h2) h
    · rw [if_neg h2, if_pos h1, if_pos h1]
  · by_cases h2 : a = j
    · rw [if_pos h2, if_neg h1, if_pos h2]
    · rw [if_neg h2, if_neg h1, if_neg h1, if_neg h2]
def ri_ (i : Nat) : Prop := i = 1 ∨ i = 3 ∨ (5 ≤ i ∧ i < 13)
theorem yc_r {l : Nat → Nat} {y : Nat → Nat → Int32} {i : Nat} (hi : ri_ i) : yc_ l y i = .inl (0, 8, .inl (y i)) := by
  rcases hi with rfl | rfl | ⟨h1, h2⟩
  · rfl
  · rfl
  · obtain ⟨n, rfl⟩ := Nat.exists_eq_add_of_le' h1
    rfl
theorem ri_lt {i : Nat} (hi : ri_ i) : i < 13 := by
  unfold ri_ at hi
  omega
theorem yc_w {l : Nat → Nat} {y y' : Nat → Nat → Int32} {i : Nat} (e : y i = y' i) : yc_ l y i = yc_ l y' i := by
  unfold yc_
  split <;> simp only [e]
section YV
variable {l : Nat → Nat} {y : Nat → Nat → Int32} {h : mm_S} {i j : Nat} {v : Int32}
theorem yv_up {x : mm_Ce} {f : Nat → Int32} (hx : x = yc_ l (yr_ y i f) i) : ov_ 13 (va_up (yc_ l y) i x) l h = yv_ l (yr_ y i f) h := by
  refine ov_ext fun a _ => ?_
  by_cases e : a = i
  · subst e
    rw [va_up_self, hx]
  · rw [va_up_ne _ _ e]
    exact yc_w (yr_ne e).symm
theorem yv_is (hl : ov_L 13 l h) : fx_is (yv_ l y h) (l 0) 4 = some () := ox_is hl (by decide) rfl
theorem yv_r0 (hl : ov_L 13 l h) : fx_gR (yv_ l y h) (l 0) 4 0 = some (l 1) := ox_gR hl (by decide) rfl rfl
theorem yv_r1 (hl : ov_L 13 l h) : fx_gR (yv_ l y h) (l 0) 4 1 = some (l 2) := ox_gR hl (by decide) rfl rfl
theorem yv_r2 (hl : ov_L 13 l h) : fx_gR (yv_ l y h) (l 0) 4 2 = some (l 3) := ox_gR hl (by decide) rfl rfl
theorem yv_r3 (hl : ov_L 13 l h) : fx_gR (yv_ l y h) (l 0) 4 3 = some (l 4) := ox_gR hl (by decide) rfl rfl
theorem yv_aR (hl : ov_L 13 l h) (hj : j < 8) : fx_aR (yv_ l y h) (l 4) (nI j) = some (l (j + 5)) := ox_aR hl (by decide) rfl (by decide) hj (by decide) (if_pos hj)
theorem yv_aI (hl : ov_L 13 l h) (hi : ri_ i) (hj : j < 8) : fx_aI (yv_ l y h) (l i) (nI j) = some (y i j) := ox_aI hl (ri_lt hi) (yc_r hi) hj (by decide)
theorem yv_sI (hl : ov_L 13 l h) (hi : ri_ i) (hj : j < 8) : fx_sI (yv_ l y h) (l i) (nI j) v = some (yv_ l (yr_ y i (upd (y i) j v)) h) := by
  unfold yv_
  rw [ox_sI hl (ri_lt hi) (yc_r hi) hj (by decide)]
  exact congrArg some (yv_up (by rw [yc_r hi, yr_at]))
theorem yv_aB (hl : ov_L 13 l h) (hj : j < 8) : fx_aB (yv_ l y h) (l 2) (nI j) = some (y 2 j) := by
  unfold fx_aB
  rw [show fx_arI (yv_ l y h) (l 2) [1, 4] = some (1, 8, y 2) from ox_arI hl (by decide) rfl (by decide), Option.bind_some]
  dsimp only
  rw [if_pos (fx_in_nI hj (by decide)), nI_clamp (by omega)]
theorem yv_sB (hl : ov_L 13 l h) (hj : j < 8) (hv : vp_nar .boolean v = v) : fx_sB (yv_ l y h) (l 2) (nI j) v = some (yv_ l (yr_ y 2 (upd (y 2) j v)) h) := by
  unfold fx_sB
  rw [show fx_arI (yv_ l y h) (l 2) [1, 4] = some (1, 8, y 2) from ox_arI hl (by decide) rfl (by decide), Option.bind_some]
  dsimp only
  rw [if_pos (fx_in_nI hj (by decide)), if_pos rfl, nI_clamp (by omega), hv]
  unfold yv_
  rw [ov_put hl (by decide)]
  exact congrArg some (yv_up (by rw [show yc_ l (yr_ y 2 (upd (y 2) j v)) 2 = .inl (1, 8, .inl (yr_ y 2 (upd (y 2) j v) 2)) from rfl, yr_at]))
end YV
/-- the treaty lies beside the ways -/
def Dy_ (l l2 g : Nat → Nat) (w : Nat → Nat → Int32) (h : mm_S) : Prop := ov_L 13 l h ∧ ov_L 16 l2 h ∧ (∀ i j, i < 13 → j < 16 → l i ≠ l2 j) ∧ ∀ i, i < 16 → h.2 (l2 i) = tc_ l2 g w i
section YT
variable {l l2 g : Nat → Nat} {w y : Nat → Nat → Int32} {h : mm_S} {i j k b n : Nat} {v : Int32} {T : Nat → Int32}
theorem Y_eq (D : Dy_ l l2 g w h) : tv_ l2 g w (yv_ l y h) = yv_ l y h := by
  unfold tv_
  refine ov_eq D.2.1 (fun i hi => ?_)
  unfold yv_
  rw [ov_ne (fun j hj => D.2.2.1 j i hj hi)]
  exact D.2.2.2 i hi
theorem Y_of {P : mm_S → Prop} (D : Dy_ l l2 g w h) (hp : P (tv_ l2 g w (yv_ l y h))) : P (yv_ l y h) := by
  rw [Y_eq D] at hp
  exact hp
theorem Y_L (D : Dy_ l l2 g w h) : ov_L 16 l2 (yv_ l y h) := D.2.1
theorem Y_n (D : Dy_ l l2 g w h) (R : R_ g w T n) : fx_gI (yv_ l y h) (l2 0) 3 3 = some (nI n) := Y_of (P := fun H => fx_gI H (l2 0) 3 3 = some (nI n)) D (T_n (Y_L D) R)
theorem Y_r0 (D : Dy_ l l2 g w h) : fx_gR (yv_ l y h) (l2 0) 3 0 = some (l2 1) := Y_of (P := fun H => fx_gR H (l2 0) 3 0 = some (l2 1)) D (tv_r0 (Y_L D))
theorem Y_r2 (D : Dy_ l l2 g w h) : fx_gR (yv_ l y h) (l2 0) 3 2 = some (l2 3) := Y_of (P := fun H => fx_gR H (l2 0) 3 2 = some (l2 3)) D (tv_r2 (Y_L D))
theorem Y_is3 (D : Dy_ l l2 g w h) : fx_is (yv_ l y h) (l2 0) 3 = some () := Y_of (P := fun H => fx_is H (l2 0) 3 = some ()) D (tv_is (Y_L D))
theorem Y_aS (D : Dy_ l l2 g w h) (R : R_ g w T n) (hj : j < n) : fx_aR (yv_ l y h) (l2 3) (nI j) = some (l2 (g j)) := Y_of (P := fun H => fx_aR H (l2 3) (nI j) = some (l2 (g j))) D (T_aS (Y_L D) R hj)
theorem Y_aG (D : Dy_ l l2 g w h) (hb : b < 2) : fx_aR (yv_ l y h) (l2 1) (nI b) = some (l2 (b + 4)) := Y_of (P := fun H => fx_aR H (l2 1) (nI b) = some (l2 (b + 4))) D (tv_aG (Y_L D) hb)
theorem Y_is (D : Dy_ l l2 g w h) (R : R_ g w T n) (hj : j < n) : fx_is (yv_ l y h) (l2 (g j)) 2 = some () := Y_of (P := fun H => fx_is H (l2 (g j)) 2 = some ()) D (T_is (Y_L D) R hj)
theorem Y_E (D : Dy_ l l2 g w h) (R : R_ g w T n) (hj : j < n) (x : Int32) : F_X2_isEnd (yv_ l y h) (l2 (g j)) x = some (bI_ (E_ (sT_ T j) x)) := Y_of (P := fun H => F_X2_isEnd H (l2 (g j)) x = some (bI_ (E_ (sT_ T j) x))) D (T_E (Y_L D) R hj x)
theorem Y_oth (D : Dy_ l l2 g w h) (R : R_ g w T n) (hj : j < n) (x : Int32) : F_X2_otherEnd (yv_ l y h) (l2 (g j)) x = some (oth_ (sT_ T j) x) := Y_of (P := fun H => F_X2_otherEnd H (l2 (g j)) x = some (oth_ (sT_ T j) x)) D (T_oth (Y_L D) R hj x)
theorem Y_cost (D : Dy_ l l2 g w h) (R : R_ g w T n) (hj : j < n) (x : Int32) : F_X2_costFor (yv_ l y h) (l2 (g j)) x = some (cost_ (sT_ T j) x) := Y_of (P := fun H => F_X2_costFor H (l2 (g j)) x = some (cost_ (sT_ T j) x)) D (T_cost (Y_L D) R hj x)
theorem Y_open (D : Dy_ l l2 g w h) (R : R_ g w T n) (hk : k < 8) (x : Int32) : F_X3_isOpenTo (yv_ l y h) (l2 0) x (nI k) = some (bI_ (x = m1_ ∨ oT_ T k ≠ nI 2)) := Y_of (P := fun H => F_X3_isOpenTo H (l2 0) x (nI k) = some (bI_ (x = m1_ ∨ oT_ T k ≠ nI 2))) D (T_open (Y_L D) R hk x)
theorem Y_S (D : Dy_ l l2 g w h) (R : R_ g w T n) (hj : j < n) (hk : k < 7) : fx_gI (yv_ l y h) (l2 (g j)) 2 k = some (sT_ T j k) := Y_of (P := fun H => fx_gI H (l2 (g j)) 2 k = some (sT_ T j k)) D (T_S (Y_L D) R hj hk)
theorem Y_G (D : Dy_ l l2 g w h) (R : R_ g w T n) (hb : b < 2) (hk : k < 5) : fx_gI (yv_ l y h) (l2 (b + 4)) 0 k = some (gT_ T b k) := Y_of (P := fun H => fx_gI H (l2 (b + 4)) 0 k = some (gT_ T b k)) D (T_G (Y_L D) R hb hk)
end YT
/-! the edges of a treaty, for a traveller -/
def op_ (T : Nat → Int32) (x : Int32) (u : Nat) : Prop := x = m1_ ∨ oT_ T u ≠ nI 2
def ET_ (T : Nat → Int32) (n : Nat) (x : Int32) (u v c : Nat) : Prop := ∃ j, j < n ∧ u < 8 ∧ v < 8 ∧ 1 ≤ c ∧ c ≤ 80 ∧ cost_ (sT_ T j) x = nI c ∧ ((sT_ T j 0 = nI u ∧ sT_ T j 1 = nI v) ∨ (sT_ T j 0 = nI v ∧ sT_ T j 1 = nI u)) ∧ op_ T x u ∧ op_ T x v
section ET
variable {T : Nat → Int32} {n : Nat} {x : Int32}
theorem ET_ed : ed_ (ET_ T n x) := fun _ _ _ ⟨_, _, h1, h2, h3, h4, _⟩ => ⟨h1, h2, h3, h4⟩
theorem ET_sym : ∀ u v c, ET_ T n x u v c → ET_ T n x v u c := fun _ _ _ ⟨j, hj, h1, h2, h3, h4, h5, h6, h7, h8⟩ => ⟨j, hj, h2, h1, h3, h4, h5, h6.symm, h8, h7⟩
theorem cost_n {f : Nat → Int32} (h : St_ f) (x : Int32) : ∃ c, 1 ≤ c ∧ c ≤ 80 ∧ cost_ f x = nI c := by
  obtain ⟨-, ⟨s, h1, h2, e⟩, -⟩ := h
  unfold cost_
  rw [e]
  split
  · exact ⟨s, h1, by omega, rfl⟩
  · exact ⟨2 * s, by omega, by omega, by rw [pk_mul]⟩
/-- a row of numbers, as naturals -/
def rv_ (f : Nat → Int32) (r : Nat → Nat) : Prop := ∀ v, v < 8 → f v = nI (r v) ∧ r v ≤ 1000000
theorem rv_up {f : Nat → Int32} {r : Nat → Nat} (h : rv_ f r) {v m : Nat} (hm : m ≤ 1000000) : rv_ (upd f v (nI m)) (va_up r v m) := by
  intro u hu
  by_cases e : u = v
  · rw [e, va_up_self, pk_us]
    exact ⟨rfl, hm⟩
  · rw [va_up_ne _ _ e, pk_un e]
    exact h u hu
/-- the smaller of a number and a detour -/
theorem mn_n {a b c : Nat} (ha : a ≤ 1000000) (hb : b ≤ 1000000) (hc : c ≤ 1000000) : (if nI b + nI c < nI a then nI b + nI c else nI a) = nI (min a (b + c)) ∧ min a (b + c) ≤ 1000000 := by
  rw [nI_add]
  by_cases h : b + c < a
  · rw [if_pos (nI_lt h (by omega)), Nat.min_eq_right (by omega)]
    exact ⟨rfl, by omega⟩
  · rw [if_neg (nI_nlt (by omega) (by omega)), Nat.min_eq_left (by omega)]
    exact ⟨rfl, ha⟩
end ET
