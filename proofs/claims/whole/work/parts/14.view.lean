/-! views: a piece of the world, laid at addresses -/
def ov_ (n : Nat) (c : Nat → mm_Ce) (l : Nat → Nat) (h : mm_S) : mm_S := (h.1, fun q => match (List.range n).find? (fun i => l i == q) with
  | some i => c i
  | none => h.2 q)
def ov_L (n : Nat) (l : Nat → Nat) (h : mm_S) : Prop := (∀ i, i < n → l i ∈ h.1) ∧ ∀ i j, i < n → j < n → l i = l j → i = j
section OV
variable {n : Nat} {c c' : Nat → mm_Ce} {l : Nat → Nat} {h : mm_S} {i q : Nat}
theorem ov_find (hd : ∀ i j, i < n → j < n → l i = l j → i = j) (hi : i < n) : (List.range n).find? (fun j => l j == l i) = some i := by
  cases e : (List.range n).find? (fun j => l j == l i) with
  | none =>
    have h3 := List.find?_eq_none.mp e i (List.mem_range.mpr hi)
    exact absurd (beq_self_eq_true (l i)) h3
  | some j =>
    have h1 := List.find?_some e
    have h2 := List.mem_of_find?_eq_some e
    rw [hd j i (List.mem_range.mp h2) hi (by simpa using h1)]
theorem ov_at (hl : ov_L n l h) (hi : i < n) : (ov_ n c l h).2 (l i) = c i := by
  unfold ov_
  dsimp only
  rw [ov_find hl.2 hi]
theorem ov_none (hq : ∀ i, i < n → l i ≠ q) : (List.range n).find? (fun i => l i == q) = none :=
  List.find?_eq_none.mpr (fun i hi => by simpa using hq i (List.mem_range.mp hi))
theorem ov_ne (hq : ∀ i, i < n → l i ≠ q) : (ov_ n c l h).2 q = h.2 q := by
  unfold ov_
  dsimp only
  rw [ov_none hq]
theorem ov_cs (P : Nat → Prop) (h1 : ∀ i, i < n → P (l i)) (h2 : (∀ i, i < n → l i ≠ q) → P q) : P q := by
  by_cases e : ∃ i, i < n ∧ l i = q
  · obtain ⟨i, hi, rfl⟩ := e
    exact h1 i hi
  · exact h2 (fun i hi e2 => e ⟨i, hi, e2⟩)
theorem ov_ext (he : ∀ i, i < n → c i = c' i) : ov_ n c l h = ov_ n c' l h := by
  unfold ov_
  refine Prod.ext rfl (funext fun q => ?_)
  dsimp only
  cases e : (List.range n).find? (fun i => l i == q) with
  | none => rfl
  | some i => exact he i (List.mem_range.mp (List.mem_of_find?_eq_some e))
theorem ov_put (hl : ov_L n l h) (hi : i < n) {x : mm_Ce} : mm_put (ov_ n c l h) (l i) x = ov_ n (va_up c i x) l h := by
  refine Prod.ext rfl (funext fun q => ?_)
  show va_up (ov_ n c l h).2 (l i) x q = _
  refine ov_cs (n := n) (l := l) (q := q) (fun q => va_up (ov_ n c l h).2 (l i) x q = (ov_ n (va_up c i x) l h).2 q) (fun j hj => ?_) (fun hn => ?_)
  · rw [ov_at (c := va_up c i x) hl hj]
    by_cases e : j = i
    · subst e
      rw [va_up_self, va_up_self]
    · rw [va_up_ne _ _ e, va_up_ne _ _ (fun e2 => e (hl.2 _ _ hj hi e2)), ov_at hl hj]
  · rw [va_up_ne _ _ (fun e => hn i hi e.symm), ov_ne hn, ov_ne hn]
theorem ov_eq (hl : ov_L n l h) (he : ∀ i, i < n → h.2 (l i) = c i) : ov_ n c l h = h := by
  refine Prod.ext rfl (funext fun q => ?_)
  refine ov_cs (n := n) (l := l) (q := q) (fun q => (ov_ n c l h).2 q = h.2 q) (fun j hj => ?_) (fun hn => ov_ne hn)
  rw [ov_at hl hj, he j hj]
theorem ov_ov : ov_ n c l (ov_ n c' l h) = ov_ n c l h := by
  unfold ov_
  refine Prod.ext rfl (funext fun q => ?_)
  dsimp only
  cases (List.range n).find? (fun i => l i == q) <;> rfl
theorem ov_Lo (hl : ov_L n l h) : ov_L n l (ov_ n c l h) := hl
end OV
/-! the numbers of the codes -/
theorem kk_i0 : ki 0 = nI 0 := rfl
theorem kk_l0 : (0 : Int32) = nI 0 := rfl
theorem kk_i1 : ki 1 = nI 1 := rfl
theorem kk_l1 : (1 : Int32) = nI 1 := rfl
theorem kk_i2 : ki 2 = nI 2 := rfl
theorem kk_l2 : (2 : Int32) = nI 2 := rfl
theorem kk_i3 : ki 3 = nI 3 := rfl
theorem kk_l3 : (3 : Int32) = nI 3 := rfl
theorem kk_i4 : ki 4 = nI 4 := rfl
theorem kk_l4 : (4 : Int32) = nI 4 := rfl
theorem kk_i5 : ki 5 = nI 5 := rfl
theorem kk_l5 : (5 : Int32) = nI 5 := rfl
theorem kk_i6 : ki 6 = nI 6 := rfl
theorem kk_l6 : (6 : Int32) = nI 6 := rfl
theorem kk_i7 : ki 7 = nI 7 := rfl
theorem kk_l7 : (7 : Int32) = nI 7 := rfl
theorem kk_i8 : ki 8 = nI 8 := rfl
theorem kk_l8 : (8 : Int32) = nI 8 := rfl
theorem kk_i9 : ki 9 = nI 9 := rfl
theorem kk_l9 : (9 : Int32) = nI 9 := rfl
theorem kk_i10 : ki 10 = nI 10 := rfl
theorem kk_l10 : (10 : Int32) = nI 10 := rfl
theorem kk_i11 : ki 11 = nI 11 := rfl
theorem kk_l11 : (11 : Int32) = nI 11 := rfl
theorem kk_i12 : ki 12 = nI 12 := rfl
theorem kk_l12 : (12 : Int32) = nI 12 := rfl
theorem kk_i13 : ki 13 = nI 13 := rfl
theorem kk_l13 : (13 : Int32) = nI 13 := rfl
theorem kk_i14 : ki 14 = nI 14 := rfl
theorem kk_l14 : (14 : Int32) = nI 14 := rfl
theorem kk_i15 : ki 15 = nI 15 := rfl
theorem kk_l15 : (15 : Int32) = nI 15 := rfl
theorem kk_i16 : ki 16 = nI 16 := rfl
theorem kk_l16 : (16 : Int32) = nI 16 := rfl
theorem kk_m1 : ki (-1) = -1 := by decide
theorem kk_0 : (0 : Int32) = nI 0 := rfl
theorem kk_1 : (1 : Int32) = nI 1 := rfl
theorem kk_b6 : kb 6 = nI 6 := by decide
theorem kk_b7 : kb 7 = nI 7 := by decide
theorem kk_b8 : kb 8 = nI 8 := by decide
theorem kk_b9 : kb 9 = nI 9 := by decide
theorem kk_b10 : kb 10 = nI 10 := by decide
theorem kk_b11 : kb 11 = nI 11 := by decide
theorem kk_b12 : kb 12 = nI 12 := by decide
theorem kk_b13 : kb 13 = nI 13 := by decide
theorem kk_b14 : kb 14 = nI 14 := by decide
theorem kk_b15 : kb 15 = nI 15 := by decide
theorem kk_b16 : kb 16 = nI 16 := by decide
theorem kk_b20 : kb 20 = nI 20 := by decide
theorem kk_b24 : kb 24 = nI 24 := by decide
theorem kk_b32 : kb 32 = nI 32 := by decide
theorem kk_b33 : kb 33 = nI 33 := by decide
theorem kk_b34 : kb 34 = nI 34 := by decide
theorem kk_b35 : kb 35 = nI 35 := by decide
theorem kk_b36 : kb 36 = nI 36 := by decide
theorem kk_b40 : kb 40 = nI 40 := by decide
theorem kk_b46 : kb 46 = nI 46 := by decide
theorem kk_b47 : kb 47 = nI 47 := by decide
theorem kk_b48 : kb 48 = nI 48 := by decide
theorem kk_b57 : kb 57 = nI 57 := by decide
theorem kk_b58 : kb 58 = nI 58 := by decide
theorem kk_b59 : kb 59 = nI 59 := by decide
theorem kk_b60 : kb 60 = nI 60 := by decide
theorem kk_b61 : kb 61 = nI 61 := by decide
theorem kk_b63 : kb 63 = nI 63 := by decide
theorem kk_b64 : kb 64 = nI 64 := by decide
theorem kk_b94 : kb 94 = nI 94 := by decide
theorem kk_b97 : kb 97 = nI 97 := by decide
theorem kk_b98 : kb 98 = nI 98 := by decide
theorem kk_b99 : kb 99 = nI 99 := by decide
theorem kk_b100 : kb 100 = nI 100 := by decide
theorem kk_b101 : kb 101 = nI 101 := by decide
theorem kk_b102 : kb 102 = nI 102 := by decide
theorem kk_b104 : kb 104 = nI 104 := by decide
theorem kk_b105 : kb 105 = nI 105 := by decide
theorem kk_b107 : kb 107 = nI 107 := by decide
theorem kk_b108 : kb 108 = nI 108 := by decide
theorem kk_b109 : kb 109 = nI 109 := by decide
theorem kk_b110 : kb 110 = nI 110 := by decide
theorem kk_b114 : kb 114 = nI 114 := by decide
theorem kk_b115 : kb 115 = nI 115 := by decide
theorem kk_b116 : kb 116 = nI 116 := by decide
theorem kk_b117 : kb 117 = nI 117 := by decide
theorem kk_b118 : kb 118 = nI 118 := by decide
theorem kk_b121 : kb 121 = nI 121 := by decide
theorem kk_b126 : kb 126 = nI 126 := by decide
theorem kk_bm : kb (-10) = -10 := by decide
theorem kk_s : ks 255 = nI 255 := by decide
/-- a loop, without an end of its own -/
theorem lp_ {β γ : Type} {n : Nat} {f : Nat → Nat → β → Option γ} (P : Nat → β → Prop) (hs : ∀ m i b, i < n → P i b → ∃ b2, f (m + 1) i b = f m (i + 1) b2 ∧ P (i + 1) b2) : ∀ (d i : Nat) (b : β) (m : Nat), d + i = n → P i b → d ≤ m → ∃ b2, f m i b = f (m - d) n b2 ∧ P n b2
  | 0, i, b, m, hd, hp, _ => by
    have e : i = n := by omega
    subst e
    exact ⟨b, rfl, hp⟩
  | d + 1, i, b, m, hd, hp, hm => by
    obtain ⟨m, rfl⟩ : ∃ m2, m = m2 + 1 := ⟨m - 1, by omega⟩
    obtain ⟨b2, e, hp2⟩ := hs m i b (by omega) hp
    obtain ⟨b3, e3, hp3⟩ := lp_ P hs d (i + 1) b2 m (by omega) hp2 (by omega)
    refine ⟨b3, ?_, hp3⟩
    rw [e, e3, Nat.add_sub_add_right]
/-- a loop that may be left -/
theorem lp_x {β γ : Type} {n : Nat} {f : Nat → Nat → β → Option γ} (P : Nat → β → Prop) (E : γ → Prop) (hs : ∀ m i b, i < n → P i b → (∃ r, f (m + 1) i b = some r ∧ E r) ∨ ∃ b2, f (m + 1) i b = f m (i + 1) b2 ∧ P (i + 1) b2) : ∀ (d i : Nat) (b : β) (m : Nat), d + i = n → P i b → d ≤ m → (∃ r, f m i b = some r ∧ E r) ∨ ∃ b2, f m i b = f (m - d) n b2 ∧ P n b2
  | 0, i, b, m, hd, hp, _ => by
    have e : i = n := by omega
    subst e
    exact .inr ⟨b, rfl, hp⟩
  | d + 1, i, b, m, hd, hp, hm => by
    obtain ⟨m, rfl⟩ : ∃ m2, m = m2 + 1 := ⟨m - 1, by omega⟩
    rcases hs m i b (by omega) hp with ⟨r, e, hr⟩ | ⟨b2, e, hp2⟩
    · exact .inl ⟨r, e, hr⟩
    · rcases lp_x P E hs d (i + 1) b2 m (by omega) hp2 (by omega) with ⟨r, e3, hr⟩ | ⟨b3, e3, hp3⟩
      · exact .inl ⟨r, by rw [e, e3], hr⟩
      · exact .inr ⟨b3, by rw [e, e3, Nat.add_sub_add_right], hp3⟩
/-- a loop that counts or sums: one number is carried -/
theorem lp_f {β γ : Type} {n : Nat} {f : Nat → Nat → β → Option γ} (g : Nat → β → β) (hs : ∀ m i b, i < n → f (m + 1) i b = f m (i + 1) (g i b)) (b : β) (m : Nat) (hm : n ≤ m) : f m 0 b = f (m - n) n (Nat.rec b (fun i x => g i x) n) := by
  obtain ⟨b2, e, hp⟩ := lp_ (P := fun i x => x = Nat.rec b (fun i x => g i x) i) (fun m i x hi hp => ⟨g i x, hs m i x hi, by rw [hp]⟩) n 0 b m (by omega) rfl hm
  rw [e, hp]
/-- a loop that looks for the first -/
theorem lp_d {γ : Type} {n : Nat} {f : Nat → Nat → Option γ} (p : Nat → Bool) (r : Nat → γ) (hs : ∀ m i, i < n → f (m + 1) i = if p i = true then some (r i) else f m (i + 1)) (m : Nat) (hm : n ≤ m) : f m 0 = match (List.range n).find? p with
    | some i => some (r i)
    | none => f (m - n) n := by
  have key : ∀ (d i m : Nat), d + i = n → d ≤ m → f m i = match (List.range' i d).find? p with
    | some i => some (r i)
    | none => f (m - d) n := by
    intro d
    induction d with
    | zero =>
      intro i m hd _
      have e : i = n := by omega
      subst e
      rfl
    | succ d ih =>
      intro i m hd hm
      obtain ⟨m, rfl⟩ : ∃ m2, m = m2 + 1 := ⟨m - 1, by omega⟩
      rw [hs m i (by omega), List.range'_succ, List.find?_cons]
      by_cases hp : p i = true
      · rw [if_pos hp, hp]
      · rw [if_neg hp, ih (i + 1) m (by omega) (by omega), Nat.add_sub_add_right]
        rw [Bool.not_eq_true] at hp
        rw [hp]
  rw [key n 0 m (by omega) hm, List.range_eq_range']
