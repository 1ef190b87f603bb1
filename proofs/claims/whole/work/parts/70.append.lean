/-! append: class and reference in step -/
def exAS_ : List String := ["java/lang/IllegalArgumentException", "java/lang/IllegalStateException"]
abbrev tq_ (A : Nat → Nat) : Nat → Nat := fun j => A (207 + j)
section AP
variable {A A' : Nat → Nat} {GG : Nat → Nat → Nat} {Z z z' : Nat → Nat → Int32} {XL : Nat → Int64} {cap cap' : Nat} {K : Nat → mm_Ce} {h h1 : mm_S} {n : Nat} {S : Nat → Nat} {M' : Nat → Nat → Int32} {C C' : Nat → mm_Ce} {N : Nat}
theorem WD_qc {j : Nat} (hj : j < 2) : Cw_ A GG Z XL cap K (207 + j) = tc2_ (tq_ A) (fun j => Z (207 + j)) cap j := by
  have e := WD_zc (A := A) (GG := GG) (Z := Z) (XL := XL) (cap := cap) (K := K) (j := j + 18) (by omega)
  rw [show 189 + (j + 18) = 207 + j from by omega] at e
  rw [e]
  match j, hj with
  | 0, _ => rfl
  | 1, _ => rfl
theorem WD_qv (hW : WD_ A GG Z XL cap K h) : ov_L 2 (tq_ A) h ∧ tv2_ (tq_ A) (fun j => Z (207 + j)) cap h = h :=
  ⟨W_L hW (by omega), W_eq hW (by omega) (fun j hj => WD_qc hj)⟩
theorem WD_qp (hW : WD_ A GG Z XL cap K h) : WD_ A GG (zu_ Z 207 2 z) XL cap K (tv2_ (tq_ A) z cap h) := by
  refine W_put hW (by omega) (fun i hi => ?_)
  by_cases e : 207 ≤ i ∧ i < 207 + 2
  · rw [if_pos e]
    obtain ⟨j, hj, rfl⟩ : ∃ j, j < 2 ∧ i = 207 + j := ⟨i - 207, by omega, by omega⟩
    rw [WD_qc hj, Nat.add_sub_cancel_left]
    match j, hj with
    | 0, _ =>
      show (.inr (7, fB_ (A 208) (zu_ Z 207 2 z 207)) : mm_Ce) = .inr (7, fB_ (A 208) (z 0))
      rw [show zu_ Z 207 2 z 207 = z 0 from zu_in (j := 0) (by decide)]
    | 1, _ =>
      show (.inl (4, cap, .inl (zu_ Z 207 2 z 208)) : mm_Ce) = .inl (4, cap, .inl (z 1))
      rw [show zu_ Z 207 2 z 208 = z 1 from zu_in (j := 1) (by decide)]
  · rw [if_neg e]
    exact Cw_z (kk := 0) (fun i hi => zu_out hi) e (fun p hp => rfl) (.inr (by decide)) (.inr rfl)
/-- a text of which the first f characters are known -/
theorem tx_SM (s : SM_ GG Z XL cap) {f : Nat} (hf : f ≤ 60) (e1 : z' 0 3 = nI f) (e2 : M' 0 19 = nI f) (hfc : f ≤ cap') (hcap : (cap' = 16 ∨ cap' = 34 ∨ cap' = 70) ∧ cap' ≤ 70) (ht : tx_ f (z' 1) (M' 7)) (hM : ∀ a, a ≠ 0 → a ≠ 7 → M' a = Z (213 + a)) (h0 : ∀ k, k ≠ 5 → k ≠ 19 → M' 0 k = Z 213 k) : SM_ GG (zu_ (zu_ Z 207 2 z') 213 11 M') XL cap' := by
  obtain ⟨s1, s2, s3, ⟨c, p, hc, hp, ec, ep, em6, s4⟩, s5, s6, s7, s8⟩ := s
  have zM : ∀ j, j < 11 → zu_ (zu_ Z 207 2 z') 213 11 M' (213 + j) = M' j := fun j hj => zm_in hj
  have zz : ∀ i, ¬ (207 ≤ i ∧ i < 209) → i < 213 → zu_ (zu_ Z 207 2 z') 213 11 M' i = Z i := fun i hi h2 => by rw [zm_out h2, zu_out (by omega)]
  have zM0 : zu_ (zu_ Z 207 2 z') 213 11 M' 213 = M' 0 := zM 0 (by decide)
  refine ⟨?_, s2, ?_, ⟨c, p, hc, hp, ?_, ?_, ?_, fun i hi => ?_⟩, ?_, ?_, ⟨f, hf, ?_, ?_, hfc, hcap.1, hcap.2, ?_⟩, ?_⟩
  · rw [show zu_ (zu_ Z 207 2 z') 213 11 M' 214 = M' 1 from zM 1 (by decide), hM 1 (by decide) (by decide)]
    exact TR_cg s1 rfl (fun i hi => zz _ (by omega) (by omega)) (fun _ _ => rfl)
  · rw [zz 209 (by omega) (by decide), zM0, h0 14 (by decide) (by decide), show zu_ (zu_ Z 207 2 z') 213 11 M' 217 = M' 4 from zM 4 (by decide), hM 4 (by decide) (by decide)]
    exact ⟨s3.1, s3.2.elim .inl (fun q => .inr ⟨q.1, TR_cg q.2 rfl (fun i hi => zz _ (by omega) (by omega)) (fun _ _ => rfl)⟩)⟩
  · rw [zz 209 (by omega) (by decide), ec]
  · rw [zz 209 (by omega) (by decide), ep]
  · rw [zM0, h0 6 (by decide) (by decide), em6]
  · rw [show zu_ (zu_ Z 207 2 z') 213 11 M' 218 = M' 5 from zM 5 (by decide), hM 5 (by decide) (by decide)]
    have hm := Nat.mod_lt (p + 8 - c + i) (show 0 < 8 by decide)
    exact TR_cg (s4 i hi) rfl (fun j hj => zz _ (by omega) (by omega)) (fun _ _ => rfl)
  · rw [zM0, h0 9 (by decide) (by decide), h0 10 (by decide) (by decide), h0 11 (by decide) (by decide), h0 12 (by decide) (by decide)]
    exact s5
  · rw [zz 209 (by omega) (by decide), zM0, h0 13 (by decide) (by decide)]
    exact s6
  · rw [zm_out (by decide), show zu_ Z 207 2 z' 207 = z' 0 from zu_in (j := 0) (by decide)]
    exact e1
  · rw [zM0]
    exact e2
  · rw [zm_out (by decide), show zu_ Z 207 2 z' 208 = z' 1 from zu_in (j := 1) (by decide), show zu_ (zu_ Z 207 2 z') 213 11 M' 220 = M' 7 from zM 7 (by decide)]
    exact ht
  · rw [zz 211 (by omega) (by decide), zz 212 (by omega) (by decide), zM0, h0 25 (by decide) (by decide), show zu_ (zu_ Z 207 2 z') 213 11 M' 223 = M' 10 from zM 10 (by decide), hM 10 (by decide) (by decide)]
    exact s8
/-! one cell more, one cell written -/
theorem W_put1 (hW : W_ N A C h) {i : Nat} (hi : i < N) {c : mm_Ce} : W_ N A (va_up C i c) (mm_put h (A i) c) := by
  refine ⟨hW.1, hW.2.1, fun j hj => ?_⟩
  show va_up h.2 (A i) c (A j) = va_up C i c j
  by_cases e : j = i
  · rw [e, va_up_self, va_up_self]
  · rw [va_up_ne _ _ e, va_up_ne _ _ (fun q => e (hW.2.1 _ _ hj hi q)), hW.2.2 j hj]
theorem W_at1 (hW : W_ N A C h) {i : Nat} {q : Nat} (hq : q ∉ h.1) {c : mm_Ce} : W_ N (va_up A i q) (va_up C i c) (h.1 ++ [q], va_up h.2 q c) := by
  have hne : ∀ j, j < N → A j ≠ q := fun j hj e => hq (e ▸ hW.1 j hj)
  refine ⟨fun j hj => ?_, fun a b ha hb e => ?_, fun j hj => ?_⟩
  · unfold va_up
    split
    · exact List.mem_append_right _ List.mem_cons_self
    · exact List.mem_append_left _ (hW.1 j hj)
  · unfold va_up at e
    split at e
    · next ea =>
      split at e
      · next eb => rw [ea, eb]
      · exact absurd e.symm (hne b hb)
    · split at e
      · exact absurd e (hne a ha)
      · exact hW.2.1 a b ha hb e
  · show va_up h.2 q c (va_up A i q j) = va_up C i c j
    by_cases e : j = i
    · subst e
      rw [va_up_self, va_up_self, va_up_self]
    · rw [va_up_ne _ _ e, va_up_ne _ _ e, va_up_ne _ _ (hne j hj), hW.2.2 j hj]
theorem W_cg (hW : W_ N A C h) (e : ∀ i, i < N → C' i = C i) : W_ N A C' h := ⟨hW.1, hW.2.1, fun i hi => by rw [e i hi]; exact hW.2.2 i hi⟩
theorem aR_c {n : Nat} {f f' : Nat → Nat} (e : ∀ k, k < n → f' k = f k) : aR_ n f' = aR_ n f := by
  funext k
  unfold aR_
  split
  · next hk => exact congrArg some (e k hk)
  · rfl
theorem tc_l {l l' g : Nat → Nat} {w : Nat → Nat → Int32} {i : Nat} (e : ∀ j, j < 16 → l' j = l j) (hg : ∀ j, j < 10 → g j < 16) : tc_ l' g w i = tc_ l g w i := by
  unfold tc_
  split
  · unfold fT_
    rw [e 1 (by decide), e 2 (by decide), e 3 (by decide)]
  · have : aR_ 2 (fun k => l' (k + 4)) = aR_ 2 (fun k => l (k + 4)) := aR_c (fun k hk => e _ (by omega))
    rw [this]
  · rfl
  · have : aR_ 10 (fun k => l' (g k)) = aR_ 10 (fun k => l (g k)) := aR_c (fun k hk => e _ (hg k hk))
    rw [this]
  · rfl
  · rfl
  · rfl
theorem Cw_A (e : ∀ i, i ≠ 208 → A' i = A i) (hg : ∀ k, k < 11 → gs_ (GG k)) {i : Nat} (hi : i < 226) (h7 : i ≠ 207) (h8 : i ≠ 208) : Cw_ A' GG Z XL cap' K i = Cw_ A GG Z XL cap K i := by
  unfold Cw_
  by_cases h1 : i < 176
  · rw [if_pos h1, if_pos h1]
    exact tc_l (fun j hj => e _ (by omega)) (fun j hj => ((hg (i / 16) (by omega)).1 j hj).2)
  rw [if_neg h1, if_neg h1]
  by_cases h2 : i < 189
  · rw [if_pos h2, if_pos h2]
    unfold yc_
    split <;> first | rfl | skip
    · dsimp only
      rw [e _ (by decide), e _ (by decide), e _ (by decide), e _ (by decide)]
    · have : aR_ 8 (fun k => A' (176 + (k + 5))) = aR_ 8 (fun k => A (176 + (k + 5))) := aR_c (fun k hk => e _ (by omega))
      dsimp only
      rw [this]
  rw [if_neg h2, if_neg h2]
  by_cases h3 : i < 209
  · rw [if_pos h3, if_pos h3]
    unfold zc_
    split <;> first | rfl | (exfalso; omega) | skip
    · unfold fO_
      dsimp only
      rw [e _ (by decide), e _ (by decide), e _ (by decide)]
    · have : aR_ 15 (fun k => A' (189 + (k + 3))) = aR_ 15 (fun k => A (189 + (k + 3))) := aR_c (fun k hk => e _ (by omega))
      dsimp only
      rw [this]
  rw [if_neg h3, if_neg h3]
  by_cases h4 : i < 213
  · rw [if_pos h4, if_pos h4]
    obtain ⟨j, hj, rfl⟩ : ∃ j, j < 4 ∧ i = 209 + j := ⟨i - 209, by omega, by omega⟩
    rw [Nat.add_sub_cancel_left]
    match j, hj with
    | 0, _ =>
      show (.inr (5, fX_ A' _ XL) : mm_Ce) = .inr (5, fX_ A _ XL)
      unfold fX_
      rw [e 0 (by decide), e 16 (by decide), e 32 (by decide), e 210 (by decide), e 176 (by decide), e 189 (by decide), e 211 (by decide)]
    | 1, _ =>
      have : aR_ 8 (fun k => A' (48 + 16 * k)) = aR_ 8 (fun k => A (48 + 16 * k)) := aR_c (fun k hk => e _ (by omega))
      show (.inl (7, 8, .inr (.inr (.inr (.inr (aR_ 8 (fun k => A' (48 + 16 * k))))))) : mm_Ce) = .inl (7, 8, .inr (.inr (.inr (.inr (aR_ 8 (fun k => A (48 + 16 * k)))))))
      rw [this]
    | 2, _ =>
      show (.inr (7, fB_ (A' 212) _) : mm_Ce) = .inr (7, fB_ (A 212) _)
      rw [e 212 (by decide)]
    | 3, _ => rfl
  rw [if_neg h4, if_neg h4]
  by_cases h5 : i < 224
  · rw [if_pos h5, if_pos h5]
    obtain ⟨j, hj, rfl⟩ : ∃ j, j < 11 ∧ i = 213 + j := ⟨i - 213, by omega, by omega⟩
    rw [Nat.add_sub_cancel_left]
    match j, hj with
    | 0, _ =>
      show (.inr (6, fM_ (fun j => A' (213 + j)) _) : mm_Ce) = .inr (6, fM_ (fun j => A (213 + j)) _)
      unfold fM_
      dsimp only
      rw [e _ (by decide), e _ (by decide), e _ (by decide), e _ (by decide), e _ (by decide), e _ (by decide), e _ (by decide), e _ (by decide), e _ (by decide), e _ (by decide)]
    | 1, _ | 2, _ | 3, _ | 4, _ | 5, _ | 6, _ | 7, _ | 8, _ | 9, _ | 10, _ => rfl
  · rw [if_neg h5, if_neg h5]
/-- the larger bytes laid -/
theorem WD_grow (hW : WD_ A GG Z XL cap K h) (hg : ∀ k, k < 11 → gs_ (GG k)) {q : Nat} (hq : q ∉ h.1) (e3 : Z 207 3 = nI cap) : WD_ (va_up A 208 q) GG (fun i => if i = 208 then va_cpy (Z 208) (fun _ => 0) 0 0 cap else Z i) XL (2 * cap + 2) K (gr_h h (A 207) q cap (Z 208) (Z 207 2) (nI cap)) := by
  have W1 := W_at1 (i := 208) (c := .inl (4, 2 * cap + 2, .inl (va_cpy (Z 208) (fun _ => 0) 0 0 cap))) hW hq
  have W2 := W_put1 (c := .inr (7, [.ref q, .int 0, .int (Z 207 2), .int (nI cap)])) W1 (show 207 < 226 by decide)
  rw [va_up_ne _ _ (show 207 ≠ 208 by decide)] at W2
  refine W_cg W2 (fun i hi => ?_)
  by_cases h7 : i = 207
  · subst h7
    rw [va_up_self]
    show (.inr (7, [.ref (va_up A 208 q 208), .int 0, .int (Z 207 2), .int (Z 207 3)]) : mm_Ce) = _
    rw [va_up_self, e3]
  · rw [va_up_ne _ _ h7]
    by_cases h8 : i = 208
    · subst h8
      rw [va_up_self]
      show (.inl (4, 2 * cap + 2, .inl (if 208 = 208 then va_cpy (Z 208) (fun _ => 0) 0 0 cap else Z 208)) : mm_Ce) = _
      rw [if_pos rfl]
    · rw [va_up_ne _ _ h8]
      have e1 := Cw_A (A' := va_up A 208 q) (A := A) (GG := GG) (Z := fun i => if i = 208 then va_cpy (Z 208) (fun _ => 0) 0 0 cap else Z i) (XL := XL) (cap := cap) (cap' := 2 * cap + 2) (K := K) (fun i hi => va_up_ne _ _ hi) hg hi h7 h8
      rw [e1]
      refine Cw_z (b := 208) (n := 1) (kk := 0) (fun i hi => if_neg (by omega)) (by omega) (fun _ _ => rfl) (.inr (by decide)) (.inr rfl)
end AP
