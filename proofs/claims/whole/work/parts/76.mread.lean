/-! the reference reads a text -/
def TV_ (v : Nat → Nat) (f : Nat) : Prop := f ≤ 60 ∧ (∀ k, k < f → 32 ≤ v k ∧ v k ≤ 126) ∧ ∀ k, f ≤ k → v k = 0
def Mq_ (v : Nat → Nat) (f : Nat) (M : Nat → Nat → Int32) (s : Nat × Bool) : Prop := M 0 20 = nI f ∧ M 0 21 = nI s.1 ∧ M 0 23 = (if s.2 = true then nI 0 else nI 1) ∧ (∀ k, k < f → M 7 k = nI (v k)) ∧ s.1 ≤ 60
def FR_ (M M' : Nat → Nat → Int32) : Prop := (∀ a, a ≠ 0 → M' a = M a) ∧ ∀ k, k ≠ 21 → k ≠ 23 → M' 0 k = M 0 k
theorem FR_t {M M1 M2 : Nat → Nat → Int32} (a : FR_ M M1) (b : FR_ M1 M2) : FR_ M M2 := ⟨fun x h => (b.1 x h).trans (a.1 x h), fun k h1 h2 => (b.2 k h1 h2).trans (a.2 k h1 h2)⟩
theorem FR_r {M : Nat → Nat → Int32} : FR_ M M := ⟨fun _ _ => rfl, fun _ _ _ => rfl⟩
def st1_ (v : Nat → Nat) (t : Nat) (s : Nat × Bool) : Nat × Bool := if s.2 = true ∧ ok1_ t (v s.1) = true then (s.1 + 1, true) else (s.1, false)
def sts_ (v : Nat → Nat) : List Nat → Nat × Bool → Nat × Bool
  | [], s => s
  | t :: ts, s => sts_ v ts (st1_ v t s)
theorem sts_f (v : Nat → Nat) : ∀ (ts : List Nat) (q : Nat), sts_ v ts (q, false) = (q, false)
  | [], _ => rfl
  | t :: ts, q => by
    show sts_ v ts (st1_ v t (q, false)) = _
    unfold st1_
    rw [if_neg (by simp)]
    exact sts_f v ts q
theorem sts_t (v : Nat → Nat) : ∀ (ts : List Nat) (q : Nat), sts_ v ts (q, true) = rn_ v ts q
  | [], _ => rfl
  | t :: ts, q => by
    show sts_ v ts (st1_ v t (q, true)) = _
    unfold st1_
    rw [rn_c]
    by_cases h : ok1_ t (v q) = true
    · rw [if_pos ⟨rfl, h⟩, if_pos h]
      exact sts_t v ts (q + 1)
    · rw [if_neg (fun y => h y.2), if_neg h]
      exact sts_f v ts q
def dv_ (v : Nat → Nat) (s : Nat × Bool) : Nat := if s.2 = true ∧ ok1_ 35 (v s.1) = true then v s.1 - 48 else 0
theorem ok35 {c : Nat} : ok1_ 35 c = true ↔ 48 ≤ c ∧ c ≤ 57 := by
  unfold ok1_
  rw [if_pos rfl, decide_eq_true_iff]
theorem tv_lt {v : Nat → Nat} {f : Nat} (t : TV_ v f) (k : Nat) : v k < 127 := by
  by_cases e : k < f
  · have := (t.2.1 k e).2
    omega
  · rw [t.2.2 k (by omega)]
    decide
theorem tv_f {v : Nat → Nat} {f k : Nat} (t : TV_ v f) (h : v k ≠ 0) : k < f := Decidable.byContradiction fun q => h (t.2.2 k (by omega))
theorem kmi : ki (-1) ≠ kb 32 ∧ ¬ In_ (kb 48) (kb 57) (ki (-1)) = true ∧ nI 0 ||| ki 0 = nI 0 ∧ nI 0 ||| ki 1 = nI 1 ∧ nI 1 ||| ki 1 = nI 1 ∧ nI 1 ||| ki 0 = nI 1 ∧ ki (-1) ≠ kb 59 := by decide +kernel
theorem wd_let (h : mm_S) : ∀ k : Nat, k < 9 → ∀ i : Nat, i < 6 → F_X6_letter h (nI k) (nI i) = some (nI ((wd_ k).getD i 0)) := by
  unfold F_X6_letter F_X6_inWord
  decide +kernel
section MR
variable {l : Nat → Nat} {M : Nat → Nat → Int32} {h : mm_S} {v : Nat → Nat} {f p : Nat} {s : Nat × Bool}
theorem m_mark (hl : ov_L 11 l h) (t : TV_ v f) (ms : Mq_ v f M s) : F_X6_mark (mv_ l M h) (l 0) = some (if s.2 = true ∧ s.1 < f then nI (v s.1) else ki (-1)) := by
  obtain ⟨m20, m21, m23, m7, hs⟩ := ms
  have hf := t.1
  unfold F_X6_mark
  rw [mg_23 hl, Option.bind_some, m23]
  by_cases h2 : s.2 = true
  · rw [if_pos h2, if_neg (fun q => q rfl), mg_21 hl, Option.bind_some, mg_20 hl, Option.bind_some, m20, m21]
    by_cases hq : s.1 < f
    · rw [if_neg (nI_ge hq (by omega)), mr_16 hl, Option.bind_some, Option.bind_some, ma_7 hl (by omega), Option.bind_some, m7 _ hq, if_pos ⟨h2, hq⟩]
    · rw [if_pos (nI_le (by omega) (by omega)), if_neg (fun q => hq q.2)]
  · rw [if_neg h2, if_pos (by decide), if_neg (fun q => h2 q.1)]
theorem m_blank (hl : ov_L 11 l h) (t : TV_ v f) (ms : Mq_ v f M s) : ∃ M', F_X6_blank (mv_ l M h) (l 0) = some (mv_ l M' h) ∧ Mq_ v f M' (st1_ v 32 s) ∧ FR_ M M' := by
  have em := m_mark hl t ms
  obtain ⟨m20, m21, m23, m7, hs⟩ := id ms
  have hf := t.1
  obtain ⟨k1, k2, k3, k4, k5, k6, k7⟩ := kmi
  unfold F_X6_blank
  rw [mg_23 hl, Option.bind_some, mv_is hl, Option.bind_some, em, Option.bind_some]
  by_cases hok : s.2 = true ∧ ok1_ 32 (v s.1) = true
  · have e32 : v s.1 = 32 := (ok1_ne (by decide)).mp hok.2
    have hq : s.1 < f := tv_f t (by rw [e32]; decide)
    have hpos : (if s.2 = true ∧ s.1 < f then nI (v s.1) else ki (-1)) = kb 32 := by
      rw [if_pos ⟨hok.1, hq⟩, e32]
      decide
    rw [if_pos hpos, m23, if_pos hok.1, k3, mp_23 hl nI0_fit, Option.bind_some, mg_21 hl, Option.bind_some, w2_n2 (by decide), m21, mg_23 hl, Option.bind_some, w2_at, if_pos (show nI 0 = 0 from rfl), nI_s, mp_21 hl, Option.bind_some]
    refine ⟨_, rfl, ?_, fun a ha => by rw [w2_ne ha, w2_ne ha], fun k h1 h2 => by rw [w2_n2 (by omega), w2_n2 (by omega)]⟩
    unfold st1_
    rw [if_pos hok]
    refine ⟨by rw [w2_n2 (by omega), w2_n2 (by omega), m20], w2_at, ?_, fun k hk => by rw [w2_ne (by decide), w2_ne (by decide), m7 k hk], by show s.1 + 1 ≤ 60; omega⟩
    rw [w2_n2 (by omega), w2_at]
    rfl
  · have hne : ¬ (if s.2 = true ∧ s.1 < f then nI (v s.1) else ki (-1)) = kb 32 := by
      split
      · next q =>
        intro e
        rw [kk_b32, nI_eq (by have := tv_lt t s.1; omega) (by decide)] at e
        exact hok ⟨q.1, (ok1_ne (by decide)).mpr e⟩
      · exact k1
    have e1 : M 0 23 ||| ki 1 = nI 1 := by
      rw [m23]
      split
      · exact k4
      · exact k5
    rw [if_neg hne, e1, mp_23 hl nI1_fit, Option.bind_some, mg_21 hl, Option.bind_some, w2_n2 (by decide), m21, mg_23 hl, Option.bind_some, w2_at, if_neg (by decide), kj_i0, nI_add, mp_21 hl, Option.bind_some]
    refine ⟨_, rfl, ?_, fun a ha => by rw [w2_ne ha, w2_ne ha], fun k h1 h2 => by rw [w2_n2 (by omega), w2_n2 (by omega)]⟩
    unfold st1_
    rw [if_neg hok]
    refine ⟨by rw [w2_n2 (by omega), w2_n2 (by omega), m20], w2_at, ?_, fun k hk => by rw [w2_ne (by decide), w2_ne (by decide), m7 k hk], hs⟩
    rw [w2_n2 (by omega), w2_at]
    rfl
theorem m_isD (hl : ov_L 11 l h) (t : TV_ v f) (ms : Mq_ v f M s) : F_X6_isDigit (mv_ l M h) (l 0) = some (bI_ (s.2 = true ∧ ok1_ 35 (v s.1) = true)) := by
  obtain ⟨k1, k2, -⟩ := kmi
  have hb : bI_ (In_ (kb 48) (kb 57) (if s.2 = true ∧ s.1 < f then nI (v s.1) else ki (-1)) = true) = bI_ (s.2 = true ∧ ok1_ 35 (v s.1) = true) := by
    have hv := tv_lt t s.1
    have hi : In_ (kb 48) (kb 57) (nI (v s.1)) = true ↔ 48 ≤ v s.1 ∧ v s.1 ≤ 57 := by rw [In_iff, kk_b48, kk_b57, nI_leI (by decide) (by omega), nI_leI (by omega) (by decide)]
    by_cases q : s.2 = true ∧ ok1_ 35 (v s.1) = true
    · have hd := ok35.mp q.2
      rw [if_pos ⟨q.1, tv_f t (by omega)⟩, bI_t q, bI_t (hi.mpr hd)]
    · rw [bI_f q]
      refine bI_f ?_
      split
      · next y => exact fun z => q ⟨y.1, ok35.mpr (hi.mp z)⟩
      · exact k2
  unfold F_X6_isDigit
  rw [mv_is hl, Option.bind_some, m_mark hl t ms, Option.bind_some, m_in, Option.bind_some, hb]
  unfold fx_nar
  rw [if_pos bI_fit.1, Option.bind_some]
/-- a digit is taken -/
theorem m_dg (hl : ov_L 11 l h) (ms : Mq_ v f M s) (h2 : s.2 = true) (hq : s.1 < f) (hf : f ≤ 60) : Mq_ v f (w2_ M 0 21 (nI (s.1 + 1))) (s.1 + 1, true) ∧ FR_ M (w2_ M 0 21 (nI (s.1 + 1))) := by
  obtain ⟨m20, m21, m23, m7, hs⟩ := ms
  refine ⟨⟨by rw [w2_n2 (by omega), m20], w2_at, ?_, fun k hk => by rw [w2_ne (by decide), m7 k hk], by show s.1 + 1 ≤ 60; omega⟩, fun a ha => by rw [w2_ne ha], fun k h1 h2 => by rw [w2_n2 (by omega)]⟩
  rw [w2_n2 (by omega), m23, if_pos h2]
  rfl
theorem m_dB (hl : ov_L 11 l h) (ms : Mq_ v f M s) (w : Bool) (hw : s.2 = true ∧ w = true ∨ w = false) : Mq_ v f (w2_ M 0 23 (if w = true then nI 0 else nI 1)) (s.1, w) ∧ FR_ M (w2_ M 0 23 (if w = true then nI 0 else nI 1)) := by
  obtain ⟨m20, m21, m23, m7, hs⟩ := ms
  exact ⟨⟨by rw [w2_n2 (by omega), m20], by rw [w2_n2 (by omega), m21], w2_at, fun k hk => by rw [w2_ne (by decide), m7 k hk], hs⟩, fun a ha => by rw [w2_ne ha], fun k h1 h2 => by rw [w2_n2 (by omega)]⟩
theorem m_dlead (hl : ov_L 11 l h) (t : TV_ v f) (ms : Mq_ v f M s) (x : Int32) : F_X6_digits (mv_ l M h) (l 0) x = ((F_X6_digits_L25 1000 (l 0) x (nI 0) (nI 0) (mv_ l (w2_ M 0 23 (if decide (s.2 = true ∧ ok1_ 35 (v s.1) = true) = true then nI 0 else nI 1)) h)).bind fun o24 => some (o24.1, o24.2)) := by
  obtain ⟨k1, k2, k3, k4, k5, k6, k7⟩ := kmi
  have m23 := ms.2.2.1
  unfold F_X6_digits F_X6_digits_B17
  rw [mg_23 hl, Option.bind_some, mv_is hl, Option.bind_some, m_isD hl t ms, Option.bind_some, m23]
  by_cases q : s.2 = true ∧ ok1_ 35 (v s.1) = true
  · rw [if_pos (fun y => bI_0.mp y q), if_pos q.1, k3, mp_23 hl nI0_fit, Option.bind_some, if_pos (by rw [decide_eq_true_iff]; exact q)]
    rfl
  · rw [if_neg (fun y => y (bI_0.mpr q))]
    have e1 : (if s.2 = true then nI 0 else nI 1) ||| ki 1 = nI 1 := by
      split
      · exact k4
      · exact k5
    rw [e1, mp_23 hl nI1_fit, Option.bind_some, if_neg (by rw [decide_eq_true_iff]; exact q)]
    rfl
theorem m_d1 (hl : ov_L 11 l h) (t : TV_ v f) (ms : Mq_ v f M s) : ∃ M', F_X6_digits (mv_ l M h) (l 0) (ki 1) = some (nI (dv_ v s), mv_ l M' h) ∧ Mq_ v f M' (st1_ v 35 s) ∧ FR_ M M' := by
  rw [m_dlead hl t ms]
  have hf := t.1
  by_cases q : s.2 = true ∧ ok1_ 35 (v s.1) = true
  · have hd := ok35.mp q.2
    have hq : s.1 < f := tv_f t (by omega)
    rw [if_pos (by rw [decide_eq_true_iff]; exact q)]
    obtain ⟨ms1, f1⟩ := m_dB hl ms true (.inl ⟨q.1, rfl⟩)
    rw [if_pos rfl] at ms1 f1
    obtain ⟨ms2, f2⟩ := m_dg hl ms1 rfl hq hf
    refine ⟨_, ?_, ?_, FR_t f1 f2⟩
    · have e1 := m_isD hl t ms1
      rw [bI_t (show (s.1, true).2 = true ∧ ok1_ 35 (v (s.1, true).1) = true from ⟨rfl, q.2⟩)] at e1
      have ev : kb 10 * nI 0 + nI (v s.1) - kb 48 = nI (dv_ v s) := by
        unfold dv_
        rw [if_pos q, kk_b10, kk_b48, pk_mul, nI_add, pk_sub (by omega)]
        refine congrArg nI (by omega)
      rw [show (1000 : Nat) = 998 + 1 + 1 from rfl, F_X6_digits_L25, if_neg (by decide), mv_is hl, Option.bind_some, e1, Option.bind_some, if_neg (by decide), mr_16 hl, Option.bind_some, mg_21 hl, Option.bind_some, ms1.2.1, ma_7 hl (by omega), Option.bind_some, ms1.2.2.2.1 _ hq, Option.bind_some, nI_s, mp_21 hl, Option.bind_some, ev, show nI 0 + ki 1 = ki 1 from by decide, F_X6_digits_L25, if_pos (Int32.le_refl _), Option.bind_some]
    · unfold st1_
      rw [if_pos q]
      exact ms2
  · rw [if_neg (by rw [decide_eq_true_iff]; exact q)]
    obtain ⟨ms1, f1⟩ := m_dB hl ms false (.inr rfl)
    rw [if_neg (by decide)] at ms1 f1
    refine ⟨_, ?_, ?_, f1⟩
    · have e1 := m_isD hl t ms1
      rw [bI_f (show ¬ ((s.1, false).2 = true ∧ ok1_ 35 (v (s.1, false).1) = true) from fun y => Bool.false_ne_true y.1)] at e1
      unfold dv_
      rw [show (1000 : Nat) = 999 + 1 from rfl, F_X6_digits_L25, if_neg (by decide), mv_is hl, Option.bind_some, e1, Option.bind_some, if_pos (by decide), Option.bind_some, if_neg q]
    · unfold st1_
      rw [if_neg q]
      exact ms1
def dv2_ (v : Nat → Nat) (s : Nat × Bool) : Nat := if s.2 = true ∧ ok1_ 35 (v s.1) = true then (if ok1_ 35 (v (s.1 + 1)) = true then 10 * (v s.1 - 48) + (v (s.1 + 1) - 48) else v s.1 - 48) else 0
def st2_ (v : Nat → Nat) (s : Nat × Bool) : Nat × Bool := if s.2 = true ∧ ok1_ 35 (v s.1) = true then (if ok1_ 35 (v (s.1 + 1)) = true then (s.1 + 2, true) else (s.1 + 1, true)) else (s.1, false)
theorem m_d2 (hl : ov_L 11 l h) (t : TV_ v f) (ms : Mq_ v f M s) : ∃ M', F_X6_digits (mv_ l M h) (l 0) (ki 2) = some (nI (dv2_ v s), mv_ l M' h) ∧ Mq_ v f M' (st2_ v s) ∧ FR_ M M' := by
  rw [m_dlead hl t ms]
  have hf := t.1
  by_cases q : s.2 = true ∧ ok1_ 35 (v s.1) = true
  · have hd := ok35.mp q.2
    have hq : s.1 < f := tv_f t (by omega)
    rw [if_pos (by rw [decide_eq_true_iff]; exact q)]
    obtain ⟨ms1, f1⟩ := m_dB hl ms true (.inl ⟨q.1, rfl⟩)
    rw [if_pos rfl] at ms1 f1
    obtain ⟨ms2, f2⟩ := m_dg hl ms1 rfl hq hf
    have e1 := m_isD hl t ms1
    rw [bI_t (show (s.1, true).2 = true ∧ ok1_ 35 (v (s.1, true).1) = true from ⟨rfl, q.2⟩)] at e1
    have ev : kb 10 * nI 0 + nI (v s.1) - kb 48 = nI (v s.1 - 48) := by
      rw [kk_b10, kk_b48, pk_mul, nI_add, pk_sub (by omega)]
      refine congrArg nI (by omega)
    have lead : ∀ x, F_X6_digits_L25 999 (l 0) (ki 2) (nI (v s.1 - 48)) (nI 1) (mv_ l (w2_ (w2_ M 0 23 (nI 0)) 0 21 (nI ((s.1, true).1 + 1))) h) = x → F_X6_digits_L25 1000 (l 0) (ki 2) (nI 0) (nI 0) (mv_ l (w2_ M 0 23 (nI 0)) h) = x := fun x ex => by
      rw [← ex, show (1000 : Nat) = 999 + 1 from rfl, F_X6_digits_L25, if_neg (by decide), mv_is hl, Option.bind_some, e1, Option.bind_some, if_neg (by decide), mr_16 hl, Option.bind_some, mg_21 hl, Option.bind_some, ms1.2.1, ma_7 hl (by omega), Option.bind_some, ms1.2.2.2.1 _ hq, Option.bind_some, nI_s, mp_21 hl, Option.bind_some, ev, nI_s]
    have e2 := m_isD hl t ms2
    by_cases q2 : ok1_ 35 (v (s.1 + 1)) = true
    · have hd2 := ok35.mp q2
      have hq2 : s.1 + 1 < f := tv_f t (by omega)
      obtain ⟨ms3, f3⟩ := m_dg hl ms2 rfl hq2 hf
      rw [bI_t (show (s.1 + 1, true).2 = true ∧ ok1_ 35 (v (s.1 + 1, true).1) = true from ⟨rfl, q2⟩)] at e2
      have ev2 : kb 10 * nI (v s.1 - 48) + nI (v (s.1 + 1)) - kb 48 = nI (dv2_ v s) := by
        unfold dv2_
        rw [if_pos q, if_pos q2, kk_b10, kk_b48, pk_mul, nI_add, pk_sub (by omega)]
        refine congrArg nI (by omega)
      refine ⟨_, ?_, ?_, FR_t (FR_t f1 f2) f3⟩
      · rw [lead _ rfl, show (999 : Nat) = 997 + 1 + 1 from rfl, F_X6_digits_L25, if_neg (by decide), mv_is hl, Option.bind_some, e2, Option.bind_some, if_neg (by decide), mr_16 hl, Option.bind_some, mg_21 hl, Option.bind_some, ms2.2.1, ma_7 hl (by show s.1 + 1 < 60; omega), Option.bind_some, ms2.2.2.2.1 _ hq2, Option.bind_some, nI_s, mp_21 hl, Option.bind_some, ev2, nI_s, F_X6_digits_L25, if_pos (by decide), Option.bind_some]
      · unfold st2_
        rw [if_pos q, if_pos q2]
        exact ms3
    · rw [bI_f (show ¬ ((s.1 + 1, true).2 = true ∧ ok1_ 35 (v (s.1 + 1, true).1) = true) from fun y => q2 y.2)] at e2
      refine ⟨_, ?_, ?_, FR_t f1 f2⟩
      · unfold dv2_
        rw [lead _ rfl, show (999 : Nat) = 998 + 1 from rfl, F_X6_digits_L25, if_neg (by decide), mv_is hl, Option.bind_some, e2, Option.bind_some, if_pos (by decide), Option.bind_some, if_pos q, if_neg q2]
      · unfold st2_
        rw [if_pos q, if_neg q2]
        exact ms2
  · rw [if_neg (by rw [decide_eq_true_iff]; exact q)]
    obtain ⟨ms1, f1⟩ := m_dB hl ms false (.inr rfl)
    rw [if_neg (by decide)] at ms1 f1
    refine ⟨_, ?_, ?_, f1⟩
    · have e1 := m_isD hl t ms1
      rw [bI_f (show ¬ ((s.1, false).2 = true ∧ ok1_ 35 (v (s.1, false).1) = true) from fun y => Bool.false_ne_true y.1)] at e1
      unfold dv2_
      rw [show (1000 : Nat) = 999 + 1 from rfl, F_X6_digits_L25, if_neg (by decide), mv_is hl, Option.bind_some, e1, Option.bind_some, if_pos (by decide), Option.bind_some, if_neg q]
    · unfold st2_
      rw [if_neg q]
      exact ms1
/-- a word is held against the text -/
theorem m_word (hl : ov_L 11 l h) (t : TV_ v f) (ms : Mq_ v f M (p, true)) {k : Nat} (hk : k < 9) (x1 : Int32) : ∀ (ts : List Nat) (i n : Nat), (wd_ k).drop i = ts → i + ts.length = (wd_ k).length → ts.length < n → F_X6_kindHere_L12 n (l 0) x1 (nI k) (nI i) (mv_ l M h) = some (nI ((rn_ v ts (p + i)).1 - p), mv_ l M h) := by
  obtain ⟨m20, m21, m23, m7, hs⟩ := id ms
  have hp : p ≤ 60 := hs
  have hf := t.1
  have hlw := wd_len k hk
  intro ts
  induction ts with
  | nil =>
    intro i n hd hl2 hn
    obtain ⟨n, rfl⟩ : ∃ y, n = y + 1 := ⟨n - 1, by rw [List.length_nil] at hn; omega⟩
    have hi : i = (wd_ k).length := hl2
    have e0 : (wd_ k).getD i 0 = 0 := by rw [List.getD_eq_getElem?_getD, List.getElem?_eq_none (by omega)]; rfl
    rw [F_X6_kindHere_L12, wd_let _ k hk i (by omega), Option.bind_some, e0, if_pos (by decide)]
    show _ = some (nI (p + i - p), _)
    rw [Nat.add_sub_cancel_left]
  | cons c ts ih =>
    intro i n hd hl2 hn
    obtain ⟨n, rfl⟩ : ∃ y, n = y + 1 := ⟨n - 1, by rw [List.length_cons] at hn; omega⟩
    rw [List.length_cons] at hl2 hn
    have hg : (wd_ k).getD i 0 = c := by
      have e1 : ((wd_ k).drop i)[0]? = some c := by rw [hd]; rfl
      rw [List.getElem?_drop, Nat.add_zero] at e1
      rw [List.getD_eq_getElem?_getD, e1]
      rfl
    have hc : c ≠ 0 ∧ c ≠ 35 ∧ c < 127 := by
      refine wd_ne k hk c ?_
      have : c ∈ (wd_ k).drop i := by rw [hd]; exact List.mem_cons_self
      exact List.mem_of_mem_drop this
    have hd2 : (wd_ k).drop (i + 1) = ts := by
      have : (wd_ k).drop (i + 1) = ((wd_ k).drop i).drop 1 := by rw [List.drop_drop]
      rw [this, hd]
      rfl
    rw [F_X6_kindHere_L12, wd_let _ k hk i (by omega), Option.bind_some, hg, if_neg (nI_nle (by omega) (by omega)), mg_21 hl, Option.bind_some, mg_20 hl, Option.bind_some, m20, m21, nI_add, rn_c]
    by_cases hq : p + i < f
    · rw [if_neg (nI_ge hq (by omega)), mr_16 hl, Option.bind_some, Option.bind_some, nI_add, ma_7 hl (by omega), Option.bind_some, m7 _ hq, Option.bind_some]
      by_cases he : v (p + i) = c
      · rw [if_neg (fun y => y (by rw [he])), nI_s, ih (i + 1) n hd2 (by omega) (by omega), if_pos ((ok1_ne hc.2.1).mpr he)]
        rfl
      · have := tv_lt t (p + i)
        rw [if_pos (fun y => he ((nI_eq (by omega) (by omega)).mp y)), if_neg (fun y => he ((ok1_ne hc.2.1).mp y))]
        show _ = some (nI (p + i - p), _)
        rw [Nat.add_sub_cancel_left]
    · rw [if_pos (nI_le (by omega) (by omega)), t.2.2 (p + i) (by omega), if_neg (ok1_0 hc.1)]
      show _ = some (nI (p + i - p), _)
      rw [Nat.add_sub_cancel_left]
theorem m_kh (hl : ov_L 11 l h) (t : TV_ v f) (ms : Mq_ v f M (p, true)) : ∀ (d k most n : Nat), d + k = 9 → d < n → most ≤ 5 → F_X6_kindHere_L4 n (l 0) (nI most) (nI k) (mv_ l M h) = match kh_ v p d k most with
    | .inl (a, q) => some (.inl (nI a, mv_ l (w2_ M 0 21 (nI q)) h))
    | .inr mx => some (.inr (nI mx, mv_ l M h)) := by
  intro d
  induction d with
  | zero =>
    intro k most n hd hn hm
    obtain ⟨n, rfl⟩ : ∃ y, n = y + 1 := ⟨n - 1, by omega⟩
    have : k = 9 := by omega
    subst this
    rw [F_X6_kindHere_L4, if_pos (by decide)]
    rfl
  | succ d ih =>
    intro k most n hd hn hm
    obtain ⟨n, rfl⟩ : ∃ y, n = y + 1 := ⟨n - 1, by omega⟩
    have hk : k < 9 := by omega
    have hlw := wd_len k hk
    have hle := rn_le v (wd_ k) p
    have ew := m_word hl t ms hk (nI most) (wd_ k) 0 1000 rfl (by omega) (by omega)
    rw [Nat.add_zero] at ew
    rw [F_X6_kindHere_L4, show kb 9 = nI 9 from by decide, if_neg (nI_ge hk (by decide)), show ki 0 = nI 0 from rfl, ew, Option.bind_some]
    dsimp only
    rw [wd_let _ k hk _ (by omega), Option.bind_some]
    unfold kh_
    by_cases hr : (rn_ v (wd_ k) p).2 = true
    · have e1 := hle.2.2.mp hr
      have e0 : (wd_ k).getD ((rn_ v (wd_ k) p).1 - p) 0 = 0 := by
        rw [List.getD_eq_getElem?_getD, List.getElem?_eq_none (by omega)]
        rfl
      rw [e0, if_neg (fun y => y rfl), mg_21 hl, Option.bind_some, ms.2.1, nI_add, mp_21 hl, Option.bind_some, if_pos hr, show (p, true).1 + ((rn_ v (wd_ k) p).1 - p) = (rn_ v (wd_ k) p).1 from by show p + _ = _; omega]
    · have e1 : ¬ (rn_ v (wd_ k) p).1 = p + (wd_ k).length := fun y => hr (hle.2.2.mpr y)
      have hi : (rn_ v (wd_ k) p).1 - p < (wd_ k).length := by omega
      have e0 : (wd_ k).getD ((rn_ v (wd_ k) p).1 - p) 0 ≠ 0 ∧ (wd_ k).getD ((rn_ v (wd_ k) p).1 - p) 0 < 127 := by
        rw [List.getD_eq_getElem?_getD, List.getElem?_eq_getElem hi]
        have := wd_ne k hk _ (List.getElem_mem hi)
        exact ⟨this.1, this.2.2⟩
      rw [if_pos (nI_ne0 (by omega) (by omega)), if_neg hr, nI_s]
      by_cases hc : (rn_ v (wd_ k) p).1 - p ≤ most
      · rw [if_pos (nI_le hc (by omega)), if_pos hc]
        exact ih (k + 1) most n (by omega) (by omega) hm
      · rw [if_neg (nI_ge (by omega) (by omega)), if_neg hc]
        exact ih (k + 1) _ n (by omega) (by omega) (by omega)
end MR
