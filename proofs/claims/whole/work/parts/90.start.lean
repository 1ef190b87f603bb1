section K0
variable {A : Nat → Nat} {C : Nat → mm_Ce} {h : mm_S}
theorem W_perm {N M : Nat} (hW : W_ N A C h) (s : Nat → Nat) (hs : ∀ i, i < M → s i < N) (hi : ∀ i j, i < M → j < M → s i = s j → i = j) : W_ M (fun i => A (s i)) (fun i => C (s i)) h :=
  ⟨fun i hi2 => hW.1 _ (hs i hi2), fun i j h1 h2 e => hi i j h1 h2 (hW.2.1 _ _ (hs i h1) (hs j h2) e), fun i hi2 => hW.2.2 _ (hs i hi2)⟩
/-- where the numbered cells were made -/
def k_s (i : Nat) : Nat := if i < 48 then 1 + i else if i < 176 then 37 + i else if i < 189 then i - 126 else if i = 189 then 63 else if i < 207 then i - 124 else if i < 209 then i - 143 else if i = 209 then 0 else if i = 210 then 49 else if i < 213 then i - 128 else i
theorem k_s_lt : ∀ i, i < 226 → k_s i < 226 := fun i hi => by
  unfold k_s
  repeat (first | omega | split)
/-- which number is at a place of the making -/
def k_t (p : Nat) : Nat := if p = 0 then 209 else if p < 49 then p - 1 else if p = 49 then 210 else if p < 63 then p + 126 else if p = 63 then 189 else if p < 66 then p + 143 else if p < 83 then p + 124 else if p < 85 then p + 128 else if p < 213 then p - 37 else p
theorem k_ts : ∀ i, i < 226 → k_t (k_s i) = i := by decide +kernel
theorem k_s_inj : ∀ i j, i < 226 → j < 226 → k_s i = k_s j → i = j := fun i j h1 h2 e => by rw [← k_ts i h1, ← k_ts j h2, e]
def k_Z0 (i k : Nat) : Int32 := if i < 176 then wT_ (i % 16) k else if i < 209 then 0 else if i = 209 then (if k = 9 then ki (-1) else 0) else if i < 213 then 0 else kM_ (i - 213) k
theorem k_I : I_ (kM_ 1) 0 := by
  unfold I_
  refine ⟨⟨0, by decide, by decide⟩, fun i hi => ?_, fun b hb => ?_, ⟨30, 30, 0, rfl, by decide, by decide, by decide⟩, fun j hj => absurd hj (Nat.not_lt_zero _), fun i j _ hj => absurd hj (Nat.not_lt_zero _), ?_⟩
  · match i, hi with
    | 0, _ => exact ⟨0, by decide, by decide⟩
    | 1, _ => exact ⟨1, by decide, by decide⟩
    | 2, _ | 3, _ | 4, _ | 5, _ | 6, _ | 7, _ => exact ⟨2, by decide, by decide⟩
  · match b, hb with
    | 0, _ => exact ⟨0, by decide, by decide, by decide⟩
    | 1, _ => exact ⟨1, by decide, by decide, by decide⟩
  · exact ⟨by decide, by decide, by decide⟩
theorem k_R : R_ gN_ (fun j => wT_ j) (kM_ 1) 0 := by
  unfold R_
  refine ⟨by decide, by decide, by decide +kernel, fun b k hb hk => (show ∀ b, b < 2 → ∀ k, k < 5 → wT_ (b + 4) k = gT_ (kM_ 1) b k by decide +kernel) b hb k hk, fun j k hj => absurd hj (Nat.not_lt_zero _), fun j hj => ?_, fun i j hi hj e => ?_⟩
  · show 6 ≤ j + 6 ∧ j + 6 < 16
    omega
  · have : i + 6 = j + 6 := e
    omega
theorem k_sT {k j : Nat} (hk : k < 11) (hj : j < 16) : k_s (16 * k + j) = k_s (16 * k) + j := by
  unfold k_s
  repeat (first | omega | split)
theorem k_0 (hW : W_ 226 A C h) (hO : C 0 = .inr (5, [.ref (A 1), .ref (A 17), .ref (A 33), .int (ki 0), .ref (A 49), .int (ki 0), .int (ki 0), .ref (A 50), .ref (A 63), .int (ki (-1)), .long (kl 0), .long (kl 0), .ref (A 83)])) (hP : PX_ 0 A C) (hM : ∀ j, j < 11 → C (213 + j) = mc_ (fun t => A (213 + t)) kM_ j) : ST_ (fun i => A (k_s i)) C h := by
  obtain ⟨p1, p2, p3, p4, p5, p6, p7, p8⟩ := hP
  have hT : ∀ k, k < 11 → PT_ A C (k_s (16 * k)) := fun k hk => by
    match k, hk with
    | 0, _ => exact p1
    | 1, _ => exact p2
    | 2, _ => exact p3
    | k + 3, hk =>
      have := p8 k (by omega)
      have e : k_s (16 * (k + 3)) = 0 + 85 + 16 * k := by
        unfold k_s
        rw [if_neg (by omega), if_pos (by omega)]
        omega
      rw [e]
      exact this
  have hZ : ∀ j, j < 20 → C (63 + j) = zZ_ (fun t => A (63 + t)) j := fun j hj => by
    have := p6 j hj
    rw [show 0 + 63 + j = 63 + j by omega] at this
    exact this.trans (zZ_l fun t _ => by rw [show 0 + 63 + t = 63 + t by omega])
  have hz : ∀ j, j < 20 → zc_ (fun t => A (k_s (189 + t))) (fun t => k_Z0 (189 + t)) 16 j = C (k_s (189 + j)) := fun j hj => by
    match j, hj with
    | 0, _ =>
      have := hZ 0 (by decide)
      exact this.symm
    | 1, _ =>
      have := hZ 3 (by decide)
      exact this.symm
    | 2, _ =>
      have := hZ 4 (by decide)
      refine Eq.trans ?_ this.symm
      show _ = (Sum.inl (8, 15, .inr (.inr (.inr (.inr (aR_ 15 (fun k => A (63 + (k + 5)))))))) : mm_Ce)
      rw [show aR_ 15 (fun k => A (63 + (k + 5))) = aR_ 15 (fun k => A (k_s (189 + (k + 3)))) from aR_c fun k hk => by
        have : k_s (189 + (k + 3)) = 63 + (k + 5) := by
          unfold k_s
          rw [if_neg (by omega), if_neg (by omega), if_neg (by omega), if_neg (by omega), if_pos (by omega)]
          omega
        rw [this]]
      rfl
    | 3, _ =>
      have := hZ 5 (by decide)
      exact this.symm
    | 4, _ =>
      have := hZ 6 (by decide)
      exact this.symm
    | 5, _ =>
      have := hZ 7 (by decide)
      exact this.symm
    | 6, _ =>
      have := hZ 8 (by decide)
      exact this.symm
    | 7, _ =>
      have := hZ 9 (by decide)
      exact this.symm
    | 8, _ =>
      have := hZ 10 (by decide)
      exact this.symm
    | 9, _ =>
      have := hZ 11 (by decide)
      exact this.symm
    | 10, _ =>
      have := hZ 12 (by decide)
      exact this.symm
    | 11, _ =>
      have := hZ 13 (by decide)
      exact this.symm
    | 12, _ =>
      have := hZ 14 (by decide)
      exact this.symm
    | 13, _ =>
      have := hZ 15 (by decide)
      exact this.symm
    | 14, _ =>
      have := hZ 16 (by decide)
      exact this.symm
    | 15, _ =>
      have := hZ 17 (by decide)
      exact this.symm
    | 16, _ =>
      have := hZ 18 (by decide)
      exact this.symm
    | 17, _ =>
      have := hZ 19 (by decide)
      exact this.symm
    | 18, _ =>
      have := hZ 1 (by decide)
      exact this.symm
    | 19, _ =>
      have := hZ 2 (by decide)
      exact this.symm
    | j + 20, hj => exact absurd hj (by omega)
  have hx : ∀ j, j < 4 → xc_ (fun i => A (k_s i)) (fun t => k_Z0 (209 + t)) (fun _ => kl 0) j = C (k_s (209 + j)) := fun j hj => by
    match j, hj with
    | 0, _ => exact hO.symm
    | 1, _ =>
      refine Eq.trans ?_ p4.symm
      show (Sum.inl (7, 8, .inr (.inr (.inr (.inr (aR_ 8 (fun k => A (k_s (48 + 16 * k)))))))) : mm_Ce) = _
      rw [show aR_ 8 (fun k => A (k_s (48 + 16 * k))) = aR_ 8 (fun j => A (0 + 85 + 16 * j)) from aR_c fun k hk => by
        have : k_s (48 + 16 * k) = 0 + 85 + 16 * k := by
          unfold k_s
          rw [if_neg (by omega), if_pos (by omega)]
          omega
        rw [this]]
    | 2, _ =>
      have := p7 0 (by decide)
      exact this.symm
    | 3, _ =>
      have := p7 1 (by decide)
      exact this.symm
  refine ⟨fun _ => gN_, k_Z0, fun _ => kl 0, 16, W_cg (W_perm hW k_s k_s_lt k_s_inj) (fun i hi => ?_), ?_⟩
  · show Cw_ (fun i => A (k_s i)) (fun _ => gN_) k_Z0 (fun _ => kl 0) 16 C i = C (k_s i)
    unfold Cw_
    by_cases h1 : i < 176
    · rw [if_pos h1]
      have hk : i / 16 < 11 := by omega
      have hj : i % 16 < 16 := by omega
      have ei : i = 16 * (i / 16) + i % 16 := by omega
      have e1 := hT _ hk _ hj
      rw [show C (k_s i) = C (k_s (16 * (i / 16)) + i % 16) by rw [← k_sT hk hj, ← ei], e1]
      refine (tc_l (fun t ht => by show A (k_s (16 * (i / 16) + t)) = _; rw [k_sT hk ht]) (fun t ht => by show t + 6 < 16; omega)).trans (tc_w ?_)
      funext x
      show (if 16 * (i / 16) + i % 16 < 176 then wT_ ((16 * (i / 16) + i % 16) % 16) x else _) = _
      rw [← ei, if_pos h1]
    rw [if_neg h1]
    by_cases h2 : i < 189
    · rw [if_pos h2]
      have e1 := p5 (i - 176) (by omega)
      have ek : k_s i = 0 + 50 + (i - 176) := by
        unfold k_s
        rw [if_neg (by omega), if_neg h1, if_pos h2]
        omega
      rw [ek, e1]
      refine (yc_l fun t ht => ?_).trans (yc_w ?_)
      · have : k_s (176 + t) = 0 + 50 + t := by
          unfold k_s
          rw [if_neg (by omega), if_neg (by omega), if_pos (by omega)]
          omega
        show A (k_s (176 + t)) = _
        rw [this]
      · funext x
        show (if 176 + (i - 176) < 176 then _ else if 176 + (i - 176) < 209 then (0 : Int32) else _) = 0
        rw [if_neg (by omega), if_pos (by omega)]
    rw [if_neg h2]
    by_cases h3 : i < 209
    · rw [if_pos h3]
      obtain ⟨j, rfl⟩ := Nat.exists_eq_add_of_le (show 189 ≤ i by omega)
      rw [Nat.add_sub_cancel_left]
      exact hz j (by omega)
    rw [if_neg h3]
    by_cases h4 : i < 213
    · rw [if_pos h4]
      obtain ⟨j, rfl⟩ := Nat.exists_eq_add_of_le (show 209 ≤ i by omega)
      rw [Nat.add_sub_cancel_left]
      exact hx j (by omega)
    rw [if_neg h4]
    have e9 : ∀ t, k_s (213 + t) = 213 + t := fun t => by
      unfold k_s
      repeat (first | omega | split)
    by_cases h5 : i < 224
    · rw [if_pos h5]
      obtain ⟨j, rfl⟩ := Nat.exists_eq_add_of_le (show 213 ≤ i by omega)
      rw [Nat.add_sub_cancel_left, e9, hM j (by omega)]
      have f1 : (fun t => A (k_s (213 + t))) = fun t => A (213 + t) := by
        funext t
        rw [e9]
      have f2 : (fun t => k_Z0 (213 + t)) = kM_ := by
        funext t x
        show (if 213 + t < 176 then _ else if 213 + t < 209 then _ else if 213 + t = 209 then _ else if 213 + t < 213 then _ else kM_ (213 + t - 213) x) = _
        rw [if_neg (by omega), if_neg (by omega), if_neg (by omega), if_neg (by omega), Nat.add_sub_cancel_left]
      show mc_ (fun t => A (k_s (213 + t))) (fun t => k_Z0 (213 + t)) j = _
      rw [f1, f2]
    · rw [if_neg h5]
      obtain ⟨j, rfl⟩ := Nat.exists_eq_add_of_le (show 213 ≤ i by omega)
      rw [e9]
  · unfold SM_
    refine ⟨⟨0, ?_, k_I⟩, fun k hk => ⟨fun j hj => ?_, fun i j hi hj e => ?_⟩, ⟨by decide, Or.inl (by decide)⟩, ⟨0, 0, by decide, by decide, by decide, by decide, by decide, fun i hi => absurd hi (Nat.not_lt_zero _)⟩, ⟨(if_pos (by decide)).symm, (if_pos (by decide)).symm⟩, by decide, ⟨0, by decide, by decide, by decide, by decide, Or.inl rfl, by decide, fun k hk => absurd hk (Nat.not_lt_zero _)⟩, ⟨0, by decide, by decide, by decide, fun k hk => absurd hk (Nat.not_lt_zero _)⟩⟩
    · refine R_cg (w := fun j => wT_ j) k_R fun i hi => ?_
      funext x
      show (if 16 * 0 + i < 176 then wT_ ((16 * 0 + i) % 16) x else _) = wT_ i x
      rw [if_pos (by omega), show (16 * 0 + i) % 16 = i by omega]
    · show 6 ≤ j + 6 ∧ j + 6 < 16
      omega
    · have : i + 6 = j + 6 := e
      omega
end K0
