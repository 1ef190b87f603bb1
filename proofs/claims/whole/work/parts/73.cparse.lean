/-! the class reads a text -/
def MK_ (S : Nat → Nat) (h : mm_S) : Prop := (∀ i, i < 9 → h.2 (S i) = .inr (9, [])) ∧ ∀ i j, i < 9 → j < 9 → S i = S j → i = j
section CP
variable {A : Nat → Nat} {GG : Nat → Nat → Nat} {Z : Nat → Nat → Int32} {XL : Nat → Int64} {cap f p : Nat} {K : Nat → mm_Ce} {h : mm_S} {S : Nat → Nat} {v : Nat → Nat}
/-- the text: f characters, and 0 behind them -/
def TX_ (Z : Nat → Nat → Int32) (cap f : Nat) (v : Nat → Nat) : Prop := f ≤ 60 ∧ f ≤ cap ∧ cap ≤ 70 ∧ Z 207 3 = nI f ∧ (∀ k, k < f → Z 208 k = nI (v k) ∧ 32 ≤ v k ∧ v k ≤ 126) ∧ ∀ k, f ≤ k → v k = 0
theorem mk_ix (m : MK_ S h) {k : Nat} (hk : k < 9) : fx_ix S (S k) = some k := by
  unfold fx_ix
  cases e : (List.range 9).find? (fun i => S i == S k) with
  | none =>
    have := List.find?_eq_none.mp e k (List.mem_range.mpr hk)
    exact absurd (beq_self_eq_true (S k)) this
  | some j =>
    have h1 := List.find?_some e
    have h2 := List.mem_range.mp (List.mem_of_find?_eq_some e)
    rw [m.2 j k h2 hk (by simpa using h1)]
theorem mk_ms (m : MK_ S h) {k : Nat} (hk : k < 9) : fx_ms h (S k) = some () := by
  unfold fx_ms
  rw [m.1 k hk]
  rfl
theorem mk_len (m : MK_ S h) {k : Nat} (hk : k < 9) : F_J0_length_8abf5 S h (S k) = some (nI (fx_tx k).length) := by
  unfold F_J0_length_8abf5
  rw [mk_ix m hk]
  rfl
theorem mk_at (m : MK_ S h) {k i : Nat} (hk : k < 9) (hi : i < (fx_tx k).length) : F_J0_charAt_5068e S h (S k) (nI i) = some (nI ((fx_tx k).getD i 0)) := by
  unfold F_J0_charAt_5068e
  have hl := tx_len k hk
  rw [mk_ix m hk, Option.bind_some, if_pos (fx_in_nI hi (by omega)), nI_clamp (by omega)]
theorem fo_k : ∀ k : Nat, k < 9 → F_X1_formOf S h (nI k) = some (S k) := by
  have e : ∀ k : Nat, k < 9 → (if (nI k).toInt < 0 ∨ 7 < (nI k).toInt then 8 else (nI k).toInt.toNat) = k := by decide +kernel
  intro k hk
  unfold F_X1_formOf
  rw [e k hk]
theorem x_dig {c : Nat} (hc : c < 2 ^ 31) : F_X1_isDigit h (nI c) = some (bI_ (48 ≤ c ∧ c ≤ 57)) := by
  unfold F_X1_isDigit
  rw [c_in, Option.bind_some, kk_b48, kk_b57]
  have e : (In_ (nI 48) (nI 57) (nI c) = true) = (48 ≤ c ∧ c ≤ 57) := propext (by rw [In_iff, nI_leI (by decide) hc, nI_leI hc (by decide)])
  have hb : bI_ (In_ (nI 48) (nI 57) (nI c) = true) = bI_ (48 ≤ c ∧ c ≤ 57) := by
    by_cases q : In_ (nI 48) (nI 57) (nI c) = true
    · rw [bI_t q, bI_t (e ▸ q)]
    · rw [bI_f q, bI_f (fun y => q (e ▸ y))]
  rw [hb]
  unfold fx_nar
  rw [if_pos bI_fit.1, Option.bind_some]
theorem t_at (hW : WD_ A GG Z XL cap K h) (t : TX_ Z cap f v) {k : Nat} (hk : k < f) : F_J4_charAt_5068e S h (A 207) (nI k) = some (nI (v k)) := by
  obtain ⟨t1, t2, t3, t4, t5, t6⟩ := t
  have e := tb_at (S := S) (z := fun j => Z (207 + j)) (cap := cap) (n := f) (j := k) (WD_qv hW).1 (by omega) t4 t2 hk (show v k < 127 by have := (t5 k hk).2.2; omega) (t5 k hk).1
  rw [(WD_qv hW).2] at e
  exact e
theorem t_len (hW : WD_ A GG Z XL cap K h) (t : TX_ Z cap f v) : F_J4_length_8abf5 h (A 207) = some (nI f) := by rw [q_len hW, t.2.2.2.1]
theorem t_v (t : TX_ Z cap f v) (k : Nat) : v k < 127 := by
  by_cases e : k < f
  · have := (t.2.2.2.2.1 k e).2.2
    omega
  · rw [t.2.2.2.2.2 k (by omega)]
    decide
/-- how many characters of a form fit -/
theorem fit_L (hW : WD_ A GG Z XL cap K h) (t : TX_ Z cap f v) (m : MK_ S h) {k : Nat} (hk : k < 9) (hp : p ≤ 60) : ∀ (ts : List Nat) (i n : Nat), (fx_tx k).drop i = ts → i + ts.length = (fx_tx k).length → ts.length < n → F_X1_charactersThatFit_L2 S h n (A 189) (S k) (nI p) (nI i) = if (rn_ v ts (p + i)).2 = true then some (.inr ()) else some (.inl (nI ((rn_ v ts (p + i)).1 - p)))
  | [], i, n + 1, hd, hl, _ => by
    have hl2 : (fx_tx k).length = i := hl.symm
    rw [F_X1_charactersThatFit_L2, mk_ms m hk, Option.bind_some, mk_len m hk, Option.bind_some, hl2, if_pos (Int32.le_refl _)]
    rfl
  | c :: ts, i, n + 1, hd, hl, hn => by
    have hlen := tx_len k hk
    rw [List.length_cons] at hl hn
    have hi : i < (fx_tx k).length := by omega
    have hg : (fx_tx k).getD i 0 = c := by
      have e1 : ((fx_tx k).drop i)[0]? = some c := by rw [hd]; rfl
      rw [List.getElem?_drop, Nat.add_zero] at e1
      rw [List.getD_eq_getElem?_getD, e1]
      rfl
    have hc : c ≠ 0 ∧ c < 127 := by
      refine tx_ne0 k hk c ?_
      have : c ∈ (fx_tx k).drop i := by rw [hd]; exact List.mem_cons_self
      exact List.mem_of_mem_drop this
    have hd2 : (fx_tx k).drop (i + 1) = ts := by
      have : (fx_tx k).drop (i + 1) = ((fx_tx k).drop i).drop 1 := by rw [List.drop_drop]
      rw [this, hd]
      rfl
    have ih := fit_L hW t m hk hp ts (i + 1) n hd2 (by omega) (by omega)
    rw [F_X1_charactersThatFit_L2, mk_ms m hk, Option.bind_some, mk_len m hk, Option.bind_some, if_neg (nI_ge hi (by omega)), Z_txt hW, Option.bind_some, q_is hW, Option.bind_some, t_len hW t, Option.bind_some, nI_add, rn_c]
    by_cases hf : p + i < f
    · have hf60 := t.1
      rw [if_pos (nI_lt hf (by omega)), Option.bind_some, mk_at m hk hi, Option.bind_some, Option.bind_some, q_is hW, Option.bind_some, t_at hW t hf, Option.bind_some, hg, kk_b35]
      have hv := t_v t (p + i)
      by_cases h35 : c = 35
      · rw [if_neg (fun q => q (by rw [h35])), x_dig (by omega), Option.bind_some]
        have eo : ok1_ c (v (p + i)) = true ↔ (48 ≤ v (p + i) ∧ v (p + i) ≤ 57) := by
          unfold ok1_
          rw [if_pos h35, decide_eq_true_iff]
        by_cases hdg : 48 ≤ v (p + i) ∧ v (p + i) ≤ 57
        · rw [if_pos (fun q => bI_0.mp q hdg), if_pos (eo.mpr hdg), nI_s, ih, show p + (i + 1) = p + i + 1 from by omega]
        · rw [if_neg (fun q => q (bI_0.mpr hdg)), if_neg (fun q => hdg (eo.mp q)), if_neg (by simp)]
          dsimp only
          rw [Nat.add_sub_cancel_left]
      · rw [if_pos (fun q => h35 ((nI_eq (by omega) (by decide)).mp q))]
        by_cases he : v (p + i) = c
        · rw [if_pos (by rw [he]), if_pos ((ok1_ne h35).mpr he), nI_s, ih, show p + (i + 1) = p + i + 1 from by omega]
        · rw [if_neg (fun q => he ((nI_eq (by omega) (by omega)).mp q)), if_neg (fun q => he ((ok1_ne h35).mp q)), if_neg (by simp)]
          dsimp only
          rw [Nat.add_sub_cancel_left]
    · have hf60 := t.1
      rw [if_neg (nI_nlt (by omega) (by omega)), t.2.2.2.2.2 (p + i) (by omega), if_neg (ok1_0 hc.1), if_neg (by simp)]
      dsimp only
      rw [Nat.add_sub_cancel_left]
  | [], _, 0, _, _, hn => absurd hn (by simp)
  | _ :: _, _, 0, _, _, hn => absurd hn (by simp)
theorem fit_F (hW : WD_ A GG Z XL cap K h) (t : TX_ Z cap f v) (m : MK_ S h) {k : Nat} (hk : k < 9) (hp : p ≤ 60) : F_X1_charactersThatFit S h (A 189) (S k) (nI p) = some (nI (ft_ v p k)) := by
  have hlen := tx_len k hk
  unfold F_X1_charactersThatFit
  rw [show ki 0 = nI 0 from rfl, fit_L hW t m hk hp (fx_tx k) 0 1000 rfl (by omega) (by omega), Nat.add_zero]
  unfold ft_
  by_cases q : (rn_ v (fx_tx k) p).2 = true
  · rw [if_pos q, Option.bind_some]
    dsimp only
    rw [mk_ms m hk, Option.bind_some, mk_len m hk, Option.bind_some, (rn_le v (fx_tx k) p).2.2.mp q, Nat.add_sub_cancel_left]
  · rw [if_neg q, Option.bind_some]
theorem ft_b {k : Nat} (hk : k < 9) : ft_ v p k ≤ 11 := by
  have := (rn_le v (fx_tx k) p).2.1
  have := tx_len k hk
  unfold ft_
  omega
theorem kf_b : ∀ k, k ≤ 9 → (kf_ v p k).2 ≤ 11
  | 0, _ => Nat.zero_le _
  | k + 1, hk => by
    unfold kf_
    split
    · exact kf_b k (by omega)
    · exact ft_b (by omega)
theorem far_F (hW : WD_ A GG Z XL cap K h) (t : TX_ Z cap f v) (m : MK_ S h) (zis : fx_is h (A 189) 1 = some ()) (hp : p ≤ 60) : F_X1_kindThatGoesFarthest S h (A 189) (nI p) = some (nI (kf_ v p 9).1) := by
  unfold F_X1_kindThatGoesFarthest
  obtain ⟨b, e, hb⟩ := lp_ (n := 9) (f := fun n i (b : Nat × Nat) => F_X1_kindThatGoesFarthest_L7 S h n (A 189) (nI p) (nI b.1) (nI b.2) (nI i)) (P := fun i b => b = kf_ v p i) (fun n i b hi hb => by
    subst hb
    refine ⟨_, ?_, rfl⟩
    have h1 := kf_b (v := v) (p := p) i (by omega)
    have h2 := ft_b (v := v) (p := p) (k := i) hi
    rw [F_X1_kindThatGoesFarthest_L7, show kb 9 = nI 9 from by decide, if_neg (nI_ge hi (by decide)), fo_k i hi, Option.bind_some, zis, Option.bind_some, fit_F hW t m hi hp, Option.bind_some, nI_s]
    by_cases q : ft_ v p i ≤ (kf_ v p i).2
    · rw [if_pos (nI_le q (by omega))]
      rw [show kf_ v p (i + 1) = kf_ v p i from if_pos q]
    · rw [if_neg (nI_ge (by omega) (by omega))]
      rw [show kf_ v p (i + 1) = (i, ft_ v p i) from if_neg q]) 9 0 (0, 0) 1000 (by omega) rfl (by omega)
  subst hb
  rw [show ki 0 = nI 0 from rfl, show F_X1_kindThatGoesFarthest_L7 S h 1000 (A 189) (nI p) (nI 0) (nI 0) (nI 0) = _ from e, show 1000 - 9 = 990 + 1 from rfl, F_X1_kindThatGoesFarthest_L7, show kb 9 = nI 9 from by decide, if_pos (Int32.le_refl _), Option.bind_some]
end CP
