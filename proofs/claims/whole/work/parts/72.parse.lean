/-! orders in a text: what fits -/
def wds_ : List (List Nat) := [[98, 117, 105, 108, 100], [116, 101, 97, 114], [104, 97, 108, 118, 101], [108, 101, 97, 115, 101], [99, 108, 105, 109, 98], [108, 101, 118, 121], [116, 97, 107, 101], [102, 114, 101, 101], [100, 97, 121]]
def wd_ (k : Nat) : List Nat := wds_.getD k []
def rt_ (k : Nat) : List Nat := if k = 0 then [32, 35, 35, 32, 35] else if k = 3 then [32, 35, 32, 35, 32, 35] else if k = 4 ∨ k = 5 ∨ k = 7 then [32, 35, 32, 35] else if k < 8 then [32, 35] else []
theorem tx_split : ∀ k : Nat, k < 9 → fx_tx k = wd_ k ++ rt_ k := by decide
theorem tx_ne0 : ∀ k : Nat, k < 9 → ∀ t ∈ fx_tx k, t ≠ 0 ∧ t < 127 := by decide
theorem tx_len : ∀ k : Nat, k < 9 → (fx_tx k).length ≤ 11 := by decide
theorem wd_ne : ∀ k : Nat, k < 9 → ∀ t ∈ wd_ k, t ≠ 0 ∧ t ≠ 35 ∧ t < 127 := by decide
theorem wd_len : ∀ k : Nat, k < 9 → 3 ≤ (wd_ k).length ∧ (wd_ k).length ≤ 5 := by decide
theorem wd_dif : ∀ a : Nat, a < 9 → ∀ b : Nat, b < 9 → a ≠ b → ∃ i : Nat, i < 3 ∧ (wd_ a).getD i 0 ≠ (wd_ b).getD i 0 := by decide
/-- a character fits -/
def ok1_ (t c : Nat) : Bool := if t = 35 then decide (48 ≤ c ∧ c ≤ 57) else decide (c = t)
/-- how far it fits, and whether to the end -/
def rn_ (v : Nat → Nat) : List Nat → Nat → Nat × Bool
  | [], p => (p, true)
  | t :: ts, p => if ok1_ t (v p) = true then rn_ v ts (p + 1) else (p, false)
theorem rn_c (v : Nat → Nat) (t : Nat) (ts : List Nat) (p : Nat) : rn_ v (t :: ts) p = if ok1_ t (v p) = true then rn_ v ts (p + 1) else (p, false) := rfl
theorem rn_le (v : Nat → Nat) : ∀ (ts : List Nat) (p : Nat), p ≤ (rn_ v ts p).1 ∧ (rn_ v ts p).1 ≤ p + ts.length ∧ ((rn_ v ts p).2 = true ↔ (rn_ v ts p).1 = p + ts.length)
  | [], p => ⟨Nat.le_refl _, Nat.le_refl _, by simp [rn_]⟩
  | t :: ts, p => by
    have ih := rn_le v ts (p + 1)
    unfold rn_
    split
    · refine ⟨by omega, by rw [List.length_cons]; omega, ?_⟩
      rw [ih.2.2, List.length_cons]
      omega
    · refine ⟨Nat.le_refl _, by omega, ?_⟩
      rw [List.length_cons]
      simp
theorem rn_app (v : Nat → Nat) : ∀ (a b : List Nat) (p : Nat), rn_ v (a ++ b) p = if (rn_ v a p).2 = true then rn_ v b (rn_ v a p).1 else rn_ v a p
  | [], b, p => by simp [rn_]
  | t :: a, b, p => by
    show rn_ v (t :: (a ++ b)) p = _
    rw [rn_c, rn_c]
    split
    · exact rn_app v a b (p + 1)
    · simp
theorem rn_at (v : Nat → Nat) : ∀ (ts : List Nat) (p : Nat) (i : Nat), p + i < (rn_ v ts p).1 → ok1_ (ts.getD i 0) (v (p + i)) = true
  | [], p, i, h => absurd h (by show ¬ p + i < p; omega)
  | t :: ts, p, i, h => by
    unfold rn_ at h
    split at h
    · next hk =>
      cases i with
      | zero => exact hk
      | succ i =>
        have := rn_at v ts (p + 1) i (by omega)
        rw [show p + (i + 1) = p + 1 + i from by omega]
        simpa using this
    · exact absurd h (by show ¬ p + i < p; omega)
theorem ok1_ne {t c : Nat} (h : t ≠ 35) : ok1_ t c = true ↔ c = t := by
  unfold ok1_
  rw [if_neg h]
  exact decide_eq_true_iff
theorem ok1_0 {t : Nat} (h : t ≠ 0) : ¬ ok1_ t 0 = true := by
  unfold ok1_
  split
  · decide
  · rw [decide_eq_true_iff]
    exact fun q => h q.symm
/-- the kind that goes farthest -/
def ft_ (v : Nat → Nat) (p k : Nat) : Nat := (rn_ v (fx_tx k) p).1 - p
def kf_ (v : Nat → Nat) (p : Nat) : Nat → Nat × Nat
  | 0 => (0, 0)
  | k + 1 => if ft_ v p k ≤ (kf_ v p k).2 then kf_ v p k else (k, ft_ v p k)
theorem kf_s (v : Nat → Nat) (p : Nat) : ∀ k, (∀ j, j < k → ft_ v p j ≤ (kf_ v p k).2) ∧ (((kf_ v p k).2 = 0 ∧ (kf_ v p k).1 = 0) ∨ ((kf_ v p k).1 < k ∧ ft_ v p (kf_ v p k).1 = (kf_ v p k).2))
  | 0 => ⟨fun j hj => absurd hj (by omega), .inl ⟨rfl, rfl⟩⟩
  | k + 1 => by
    obtain ⟨h1, h2⟩ := kf_s v p k
    unfold kf_
    split
    · next h =>
      refine ⟨fun j hj => ?_, h2.elim .inl (fun q => .inr ⟨by omega, q.2⟩)⟩
      by_cases e : j = k
      · rw [e]; exact h
      · exact h1 j (by omega)
    · next h =>
      refine ⟨fun j hj => ?_, .inr ⟨by show k < k + 1; omega, rfl⟩⟩
      show ft_ v p j ≤ ft_ v p k
      by_cases e : j = k
      · rw [e]; exact Nat.le_refl _
      · have := h1 j (by omega)
        omega
/-- the word that stands here -/
def kh_ (v : Nat → Nat) (p : Nat) : Nat → Nat → Nat → (Nat × Nat) ⊕ Nat
  | 0, _, most => .inr most
  | n + 1, k, most => if (rn_ v (wd_ k) p).2 = true then .inl (k, (rn_ v (wd_ k) p).1) else kh_ v p n (k + 1) (if (rn_ v (wd_ k) p).1 - p ≤ most then most else (rn_ v (wd_ k) p).1 - p)
theorem kh_l (v : Nat → Nat) (p : Nat) : ∀ n k most, (∀ a q, kh_ v p n k most = .inl (a, q) → k ≤ a ∧ a < k + n ∧ rn_ v (wd_ a) p = (q, true)) ∧ ∀ mx, kh_ v p n k most = .inr mx → (∀ j, k ≤ j → j < k + n → (rn_ v (wd_ j) p).2 = false ∧ (rn_ v (wd_ j) p).1 - p ≤ mx) ∧ most ≤ mx ∧ (mx = most ∨ ∃ j, k ≤ j ∧ j < k + n ∧ (rn_ v (wd_ j) p).1 - p = mx)
  | 0, k, most => ⟨fun a q h => (by cases h), fun mx h => by cases h; exact ⟨fun j h1 h2 => absurd h2 (by omega), Nat.le_refl _, .inl rfl⟩⟩
  | n + 1, k, most => by
    unfold kh_
    split
    · next h => exact ⟨fun a q e => by cases e; exact ⟨Nat.le_refl _, by omega, Prod.ext rfl h⟩, fun mx e => by cases e⟩
    · next h =>
      obtain ⟨h1, h2⟩ := kh_l v p n (k + 1) (if (rn_ v (wd_ k) p).1 - p ≤ most then most else (rn_ v (wd_ k) p).1 - p)
      refine ⟨fun a q e => ?_, fun mx e => ?_⟩
      · obtain ⟨a1, a2, a3⟩ := h1 a q e
        exact ⟨by omega, by omega, a3⟩
      · obtain ⟨b1, b2, b3⟩ := h2 mx e
        have b2' : most ≤ mx ∧ (rn_ v (wd_ k) p).1 - p ≤ mx := by
          split at b2 <;> omega
        refine ⟨fun j j1 j2 => ?_, b2'.1, ?_⟩
        · by_cases ej : j = k
          · subst ej
            exact ⟨by simpa using h, b2'.2⟩
          · exact b1 j (by omega) (by omega)
        · rcases b3 with b3 | ⟨j, j1, j2, j3⟩
          · split at b3
            · exact .inl b3
            · exact .inr ⟨k, Nat.le_refl _, by omega, b3.symm⟩
          · exact .inr ⟨j, by omega, by omega, j3⟩
theorem wd_ft {v : Nat → Nat} {p k : Nat} (hk : k < 9) (h : (rn_ v (wd_ k) p).2 = false) : rn_ v (fx_tx k) p = rn_ v (wd_ k) p := by
  rw [tx_split k hk, rn_app, h]
  rfl
/-- both find the same kind, or the same fault -/
theorem kd_in {v : Nat → Nat} {p a q : Nat} (h : kh_ v p 9 0 0 = .inl (a, q)) : a < 9 ∧ rn_ v (wd_ a) p = (q, true) ∧ q = p + (wd_ a).length ∧ (kf_ v p 9).1 = a := by
  obtain ⟨-, h9, hr⟩ := (kh_l v p 9 0 0).1 a q h
  have ha : a < 9 := by omega
  have hle := rn_le v (wd_ a) p
  rw [hr] at hle
  have hq : q = p + (wd_ a).length := hle.2.2.mp rfl
  have hwl := wd_len a ha
  refine ⟨ha, hr, hq, ?_⟩
  have hfa : 3 ≤ ft_ v p a := by
    unfold ft_
    rw [tx_split a ha, rn_app, hr, if_pos rfl]
    have := (rn_le v (rt_ a) q).1
    show 3 ≤ (rn_ v (rt_ a) q).1 - p
    omega
  obtain ⟨k1, k2⟩ := kf_s v p 9
  have k3 := k1 a ha
  rcases k2 with ⟨k2, -⟩ | ⟨k4, k5⟩
  · omega
  · refine Decidable.byContradiction fun hne => ?_
    have hb := (kf_ v p 9).1
    obtain ⟨i, hi, hd⟩ := wd_dif a ha _ k4 (fun e => hne e.symm)
    have hlb := wd_len _ k4
    have hai : ok1_ ((wd_ a).getD i 0) (v (p + i)) = true := rn_at v (wd_ a) p i (by rw [hr]; show p + i < q; omega)
    have hbi : ok1_ ((fx_tx (kf_ v p 9).1).getD i 0) (v (p + i)) = true := rn_at v _ p i (by unfold ft_ at k5; omega)
    have e1 : (fx_tx (kf_ v p 9).1).getD i 0 = (wd_ (kf_ v p 9).1).getD i 0 := by
      rw [tx_split _ k4, List.getD_eq_getElem?_getD, List.getElem?_append_left (by omega), ← List.getD_eq_getElem?_getD]
    have n35 : ∀ c, c < 9 → (wd_ c).getD i 0 ≠ 35 := fun c hc => by
      have hlc := wd_len c hc
      rw [List.getD_eq_getElem?_getD, List.getElem?_eq_getElem (by omega)]
      exact (wd_ne c hc _ (List.getElem_mem _)).2.1
    rw [e1, ok1_ne (n35 _ k4)] at hbi
    rw [ok1_ne (n35 a ha)] at hai
    exact hd (hai.symm.trans hbi)
theorem kd_out {v : Nat → Nat} {p mx : Nat} (h : kh_ v p 9 0 0 = .inr mx) : (kf_ v p 9).1 < 9 ∧ rn_ v (fx_tx (kf_ v p 9).1) p = (p + mx, false) := by
  obtain ⟨h1, -, h3⟩ := (kh_l v p 9 0 0).2 mx h
  obtain ⟨k1, k2⟩ := kf_s v p 9
  have hft : ∀ j, j < 9 → ft_ v p j = (rn_ v (wd_ j) p).1 - p := fun j hj => by
    unfold ft_
    rw [wd_ft hj (h1 j (by omega) (by omega)).1]
  have hlt : (kf_ v p 9).1 < 9 := by
    rcases k2 with ⟨-, e⟩ | ⟨e, -⟩
    · rw [e]; decide
    · exact e
  have hmx : (kf_ v p 9).2 = mx := by
    rcases k2 with ⟨k2, -⟩ | ⟨k4, k5⟩
    · rcases h3 with h3 | ⟨j, -, j2, j3⟩
      · omega
      · have := k1 j (by omega)
        rw [hft j (by omega)] at this
        omega
    · have a1 := (h1 _ (Nat.zero_le _) (show (kf_ v p 9).1 < 0 + 9 by omega)).2
      rw [hft _ k4] at k5
      rcases h3 with h3 | ⟨j, -, j2, j3⟩
      · omega
      · have := k1 j (by omega)
        rw [hft j (by omega)] at this
        omega
  refine ⟨hlt, ?_⟩
  have hw := h1 _ (Nat.zero_le _) (show (kf_ v p 9).1 < 0 + 9 by omega)
  have hle := rn_le v (wd_ (kf_ v p 9).1) p
  rw [wd_ft hlt hw.1]
  refine Prod.ext ?_ hw.1
  have e0 := hft _ hlt
  show (rn_ v (wd_ (kf_ v p 9).1) p).1 = p + mx
  rcases k2 with ⟨k2, k6⟩ | ⟨k4, k5⟩
  · have a1 := k1 _ hlt
    omega
  · omega
