/-! one order, then all, read by the class -/
section CS2
variable {A : Nat → Nat} {GG : Nat → Nat → Nat} {Z : Nat → Nat → Int32} {XL : Nat → Int64} {cap f p o k : Nat} {K : Nat → mm_Ce} {h : mm_S} {S : Nat → Nat} {v : Nat → Nat}
theorem up_at {r : Nat → Int32} {a : Nat} {x : Int32} : upd r a x a = x := by unfold upd; rw [if_pos rfl]
theorem up_ne {r : Nat → Int32} {a b : Nat} {x : Int32} (h : b ≠ a) : upd r a x b = r b := by unfold upd; rw [if_neg h]
theorem dg_sub {c : Nat} (h : 48 ≤ c ∧ c ≤ 57) : nI c - nI 48 = nI (c - 48) := pk_sub h.1
/-- what the row of an order holds then; the tenth character of the first kind apart -/
def row_ (v : Nat → Nat) (p k j : Nat) : Nat := if k = 0 ∧ j = 2 then v (p + 9) - 48 else on_ v p k j
theorem row_V (h : (rn_ v (fx_tx k) p).2 = true) (r : Nat → Int32) (hk : k < 9) : ∀ j, j < na_ k → nr_ v p (fx_tx k) 0 0 r j = nI (row_ v p k j) := by
  match k, hk with
  | 0, _ =>
    intro j hj
    show (upd (upd (upd r 0 (nI (v (p + 6)) - nI 48)) 1 (nI (v (p + 7)) - nI 48)) 2 (nI (v (p + 9)) - nI 48)) j = _
    have d0 := rn_dg (i := 6) h (by decide) (by decide)
    rw [dg_sub d0]
    have d1 := rn_dg (i := 7) h (by decide) (by decide)
    rw [dg_sub d1]
    have d2 := rn_dg (i := 9) h (by decide) (by decide)
    rw [dg_sub d2]
    match j, hj with
    | 0, _ =>
      rw [up_ne (by decide)]
      rw [up_ne (by decide)]
      rw [up_at]
      rfl
    | 1, _ =>
      rw [up_ne (by decide)]
      rw [up_at]
      rfl
    | 2, _ =>
      rw [up_at]
      rfl
  | 1, _ =>
    intro j hj
    show (upd r 0 (nI (v (p + 5)) - nI 48)) j = _
    have d0 := rn_dg (i := 5) h (by decide) (by decide)
    rw [dg_sub d0]
    match j, hj with
    | 0, _ =>
      rw [up_at]
      rfl
  | 2, _ =>
    intro j hj
    show (upd r 0 (nI (v (p + 6)) - nI 48)) j = _
    have d0 := rn_dg (i := 6) h (by decide) (by decide)
    rw [dg_sub d0]
    match j, hj with
    | 0, _ =>
      rw [up_at]
      rfl
  | 3, _ =>
    intro j hj
    show (upd (upd (upd r 0 (nI (v (p + 6)) - nI 48)) 1 (nI (v (p + 8)) - nI 48)) 2 (nI (v (p + 10)) - nI 48)) j = _
    have d0 := rn_dg (i := 6) h (by decide) (by decide)
    rw [dg_sub d0]
    have d1 := rn_dg (i := 8) h (by decide) (by decide)
    rw [dg_sub d1]
    have d2 := rn_dg (i := 10) h (by decide) (by decide)
    rw [dg_sub d2]
    match j, hj with
    | 0, _ =>
      rw [up_ne (by decide)]
      rw [up_ne (by decide)]
      rw [up_at]
      rfl
    | 1, _ =>
      rw [up_ne (by decide)]
      rw [up_at]
      rfl
    | 2, _ =>
      rw [up_at]
      rfl
  | 4, _ =>
    intro j hj
    show (upd (upd r 0 (nI (v (p + 6)) - nI 48)) 1 (nI (v (p + 8)) - nI 48)) j = _
    have d0 := rn_dg (i := 6) h (by decide) (by decide)
    rw [dg_sub d0]
    have d1 := rn_dg (i := 8) h (by decide) (by decide)
    rw [dg_sub d1]
    match j, hj with
    | 0, _ =>
      rw [up_ne (by decide)]
      rw [up_at]
      rfl
    | 1, _ =>
      rw [up_at]
      rfl
  | 5, _ =>
    intro j hj
    show (upd (upd r 0 (nI (v (p + 5)) - nI 48)) 1 (nI (v (p + 7)) - nI 48)) j = _
    have d0 := rn_dg (i := 5) h (by decide) (by decide)
    rw [dg_sub d0]
    have d1 := rn_dg (i := 7) h (by decide) (by decide)
    rw [dg_sub d1]
    match j, hj with
    | 0, _ =>
      rw [up_ne (by decide)]
      rw [up_at]
      rfl
    | 1, _ =>
      rw [up_at]
      rfl
  | 6, _ =>
    intro j hj
    show (upd r 0 (nI (v (p + 5)) - nI 48)) j = _
    have d0 := rn_dg (i := 5) h (by decide) (by decide)
    rw [dg_sub d0]
    match j, hj with
    | 0, _ =>
      rw [up_at]
      rfl
  | 7, _ =>
    intro j hj
    show (upd (upd r 0 (nI (v (p + 5)) - nI 48)) 1 (nI (v (p + 7)) - nI 48)) j = _
    have d0 := rn_dg (i := 5) h (by decide) (by decide)
    rw [dg_sub d0]
    have d1 := rn_dg (i := 7) h (by decide) (by decide)
    rw [dg_sub d1]
    match j, hj with
    | 0, _ =>
      rw [up_ne (by decide)]
      rw [up_at]
      rfl
    | 1, _ =>
      rw [up_at]
      rfl
  | 8, _ =>
    intro j hj
    exact absurd hj (by unfold na_; simp)
theorem dg10 (t : TX_ Z cap f v) (hd : 48 ≤ v (p + 10) ∧ v (p + 10) ≤ 57) : p + 10 < f := by
  refine Decidable.byContradiction fun hn => ?_
  rw [t.2.2.2.2.2 (p + 10) (by omega)] at hd
  omega
theorem ord_F (hW : WD_ A GG Z XL cap K h) (t : TX_ Z cap f v) (m : MK_ S h) (hk : k < 9) (ho : o < 15) (hp : p ≤ 60) (hr : (rn_ v (fx_tx k) p).2 = true) : ∃ h' Z', F_X1_readOrder S h (A 189) (nI o) (nI k) (nI p) = some (nI (oe_ v p k), h') ∧ WD_ A GG Z' XL cap K h' ∧ MK_ S h' ∧ Z' 190 = upd (Z 190) o (nI k) ∧ (∀ j, j < na_ k → Z' (192 + o) j = nI (on_ v p k j)) ∧ ∀ a, a ≠ 190 → a ≠ 192 + o → Z' a = Z a := by
  have hlen := rn_end t hk hr (by have := tx_pos k hk; omega)
  have hlk := tx_len k hk
  have hf60 := t.1
  obtain ⟨h1, e1, W1, m1⟩ := WD_sI (j := o) (x := nI k) hW m (show 176 ≤ 190 ∧ 190 < 224 by decide) (by decide) zc_k ho (by decide)
  have t1 : TX_ (w2_ Z 190 o (nI k)) cap f v := TX_cg t (w2_ne (by decide)) (w2_ne (by decide))
  obtain ⟨h2, Z2, e2, W2, m2, r2, z2⟩ := row_L hk ho (nI k) hlen (fx_tx k) 0 0 1000 _ h1 W1 t1 m1 rfl (by omega) (by omega) (by omega)
  have t2 : TX_ Z2 cap f v := TX_cg t1 (z2 207 (by omega)) (z2 208 (by omega))
  have z190 : Z2 190 = upd (Z 190) o (nI k) := by rw [z2 190 (by omega), w2_upd]
  have zo : ∀ a, a ≠ 190 → a ≠ 192 + o → Z2 a = Z a := fun a h1 h2 => by rw [z2 a h2, w2_ne h1]
  have rV := row_V hr (w2_ Z 190 o (nI k) (192 + o)) hk
  rw [← r2] at rV
  have lead : ∀ x, F_X1_readOrder_B93 S h2 (A 189) (nI o) (nI k) (nI p) (S k) = x → F_X1_readOrder S h (A 189) (nI o) (nI k) (nI p) = x := fun x ex => by
    rw [← ex]
    unfold F_X1_readOrder
    rw [fo_k k hk, Option.bind_some, O_r1 hW, Option.bind_some, e1, Option.bind_some, show F_X1_readOrder_L19 S 1000 (A 189) (nI o) (nI k) (nI p) (S k) (ki 0) (ki 0) h1 = some h2 from e2, Option.bind_some]
  by_cases k0 : k = 0
  · subst k0
    by_cases hd : 48 ≤ v (p + 10) ∧ v (p + 10) ≤ 57
    · have h10 := dg10 t hd
      have c2 := rV 2 (by decide)
      obtain ⟨h3, e3, W3, m3⟩ := WD_sI (j := 2) (x := nI (on_ v p 0 2)) W2 m2 (show 176 ≤ 192 + o ∧ 192 + o < 224 by omega) (by omega) (zc_n ho) (by decide) (by decide)
      have d9 := rn_dg (i := 9) hr (by decide) (by decide)
      have ev : kb 10 * nI (row_ v p 0 2) + nI (v (p + 10)) - kb 48 = nI (on_ v p 0 2) := by
        rw [show kb 10 = nI 10 from by decide, kk_b48, pk_mul, nI_add, show row_ v p 0 2 = v (p + 9) - 48 from rfl, pk_sub (by omega)]
        refine congrArg nI ?_
        show _ = (if 48 ≤ v (p + 10) ∧ v (p + 10) ≤ 57 then 10 * (v (p + 9) - 48) + (v (p + 10) - 48) else v (p + 9) - 48)
        rw [if_pos hd]
        omega
      refine ⟨h3, _, lead _ ?_, W3, m3, by rw [w2_ne (by omega), z190], fun j hj => ?_, fun a h1 h2 => by rw [w2_ne h2, zo a h1 h2]⟩
      · unfold F_X1_readOrder_B93 oe_
        rw [mk_ms m2 hk, Option.bind_some, mk_len m2 hk, Option.bind_some, if_neg (fun q => q rfl), Z_txt W2, Option.bind_some, q_is W2, Option.bind_some, t_len W2 t2, Option.bind_some, nI_add, show p + (fx_tx 0).length = p + 10 from rfl, if_neg (nI_ge h10 (by omega)), Option.bind_some, q_is W2, Option.bind_some, t_at W2 t2 h10, Option.bind_some, x_dig (by omega), Option.bind_some, if_neg (fun q => bI_0.mp q hd), if_pos ⟨rfl, hd⟩]
        simp only [O_r2 W2, O_aR W2 ho, Option.bind_some, kj_i2, O_aI W2 ho (show 2 < 3 by decide), c2, q_is W2, t_at W2 t2 h10, ev, e3, nI_s]
      · by_cases j2 : j = 2
        · subst j2
          rw [w2_at]
        · rw [w2_n2 (by omega), rV j hj]
          unfold row_
          rw [if_neg (by omega)]
    · have ho2 : on_ v p 0 2 = v (p + 9) - 48 := if_neg hd
      refine ⟨h2, Z2, lead _ ?_, W2, m2, z190, fun j hj => ?_, zo⟩
      · unfold F_X1_readOrder_B93 oe_
        rw [mk_ms m2 hk, Option.bind_some, mk_len m2 hk, Option.bind_some, if_neg (fun q => q rfl), Z_txt W2, Option.bind_some, q_is W2, Option.bind_some, t_len W2 t2, Option.bind_some, nI_add, show p + (fx_tx 0).length = p + 10 from rfl, if_neg (show ¬ (0 = 0 ∧ (48 ≤ v (p + 10) ∧ v (p + 10) ≤ 57)) from fun q => hd q.2)]
        by_cases h10 : p + 10 < f
        · rw [if_neg (nI_ge h10 (by omega)), Option.bind_some, q_is W2, Option.bind_some, t_at W2 t2 h10, Option.bind_some, x_dig (by have := t_v t (p + 10); omega), Option.bind_some, if_pos (bI_0.mpr hd)]
        · rw [if_pos (nI_le (by omega) (by omega))]
      · rw [rV j hj]
        unfold row_
        by_cases j2 : j = 2
        · subst j2
          rw [if_pos ⟨rfl, rfl⟩, ho2]
        · rw [if_neg (fun q => j2 q.2)]
  · refine ⟨h2, Z2, lead _ ?_, W2, m2, z190, fun j hj => ?_, zo⟩
    · unfold F_X1_readOrder_B93 oe_
      rw [mk_ms m2 hk, Option.bind_some, mk_len m2 hk, Option.bind_some, if_pos (show nI k ≠ 0 from fun q => k0 ((nI_eq (b := 0) (by omega) (by decide)).mp q)), nI_add, if_neg (show ¬ (k = 0 ∧ (48 ≤ v (p + 10) ∧ v (p + 10) ≤ 57)) from fun q => k0 q.1)]
    · rw [rV j hj]
      unfold row_
      rw [if_neg (fun q => k0 q.1)]
/-- what is read so far -/
def CO_ (v : Nat → Nat) (Z : Nat → Nat → Int32) (acc : List (Nat × Nat)) : Prop := Z 189 3 = nI acc.length ∧ ∀ i, i < acc.length → (acc.getD i (0, 0)).1 < 9 ∧ Z 190 i = nI (acc.getD i (0, 0)).1 ∧ ∀ j, j < na_ (acc.getD i (0, 0)).1 → Z (192 + i) j = nI (on_ v (acc.getD i (0, 0)).2 (acc.getD i (0, 0)).1 j)
theorem CO_push {acc : List (Nat × Nat)} {Z Z' : Nat → Nat → Int32} (c : CO_ v Z acc) (hk : k < 9) (e3 : Z' 189 3 = nI (acc.length + 1)) (ek : Z' 190 = upd (Z 190) acc.length (nI k)) (en : ∀ j, j < na_ k → Z' (192 + acc.length) j = nI (on_ v p k j)) (eo : ∀ i, i < acc.length → Z' (192 + i) = Z (192 + i)) : CO_ v Z' (acc ++ [(k, p)]) := by
  refine ⟨by rw [e3, List.length_append]; rfl, fun i hi => ?_⟩
  rw [List.length_append, List.length_singleton] at hi
  by_cases e : i = acc.length
  · subst e
    have eg : (acc ++ [(k, p)]).getD acc.length (0, 0) = (k, p) := by simp
    rw [eg]
    exact ⟨hk, by rw [ek, up_at], en⟩
  · have eg : (acc ++ [(k, p)]).getD i (0, 0) = acc.getD i (0, 0) := by
      rw [List.getD_eq_getElem?_getD, List.getElem?_append_left (by omega), ← List.getD_eq_getElem?_getD]
    rw [eg, ek, up_ne e, eo i (by omega)]
    exact c.2 i (by omega)
theorem kf_9 (v : Nat → Nat) (p : Nat) : (kf_ v p 9).1 < 9 := by
  rcases (kf_s v p 9).2 with ⟨-, e⟩ | ⟨e, -⟩
  · rw [e]; decide
  · exact e
theorem oe_le (t : TX_ Z cap f v) (hk : k < 9) (hr : (rn_ v (fx_tx k) p).2 = true) : oe_ v p k ≤ f ∧ p + 3 ≤ oe_ v p k := by
  have h1 := tx_pos k hk
  have h2 := rn_end t hk hr (by omega)
  unfold oe_
  split
  · next q =>
    have := dg10 t q.2
    omega
  · omega
theorem read_L : ∀ (n : Nat) (p fuel : Nat) (acc : List (Nat × Nat)) (Z : Nat → Nat → Int32) (h : mm_S), n + acc.length = 15 → p ≤ f → n < fuel → WD_ A GG Z XL cap K h → TX_ Z cap f v → MK_ S h → CO_ v Z acc → ∃ h' Z', (F_X1_read_L9 S fuel (A 189) (nI p) (nI acc.length) h = some (.inl (fI_ (pr_ v f n p acc).1, h')) ∨ F_X1_read_L9 S fuel (A 189) (nI p) (nI acc.length) h = some (.inr (fI_ (pr_ v f n p acc).1, h'))) ∧ WD_ A GG Z' XL cap K h' ∧ CO_ v Z' (pr_ v f n p acc).2 ∧ ∀ a, (a < 189 ∨ 207 ≤ a) → Z' a = Z a := by
  intro n
  induction n with
  | zero =>
    intro p fuel acc Z h hl hp hf hW t m c
    obtain ⟨fuel, rfl⟩ : ∃ y, fuel = y + 1 := ⟨fuel - 1, by omega⟩
    refine ⟨h, Z, .inr ?_, hW, c, fun _ _ => rfl⟩
    rw [F_X1_read_L9, if_pos (show kb 15 ≤ nI acc.length by rw [kk_b15]; exact nI_le (by omega) (by omega))]
    rfl
  | succ n ih =>
    intro p fuel acc Z h hl hp hf hW t m c
    have hf60 := t.1
    obtain ⟨fuel, rfl⟩ : ∃ y, fuel = y + 1 := ⟨fuel - 1, by omega⟩
    have hk := kf_9 v p
    generalize hkd : (kf_ v p 9).1 = k at hk
    have hle := rn_le v (fx_tx k) p
    have hlk := tx_len k hk
    have hft : ft_ v p k = (rn_ v (fx_tx k) p).1 - p := rfl
    have lead : ∀ x, (if nI (fx_tx k).length ≤ nI (ft_ v p k) then ((F_X1_readOrder S h (A 189) (nI acc.length) (nI k) (nI p)).bind fun v19 => (fx_pV v19.2 (A 189) 1 3 (.int (nI acc.length + ki 1))).bind fun h21 => (fx_gR h21 (A 189) 1 0).bind fun v23 => (fx_is h21 v23 7).bind fun _ => (F_J4_length_8abf5 h21 v23).bind fun v26 => if v19.1 < v26 then (fx_gR h21 (A 189) 1 0).bind fun v29 => (fx_is h21 v29 7).bind fun _ => (F_J4_charAt_5068e S h21 v29 v19.1).bind fun v32 => if v32 = kb 59 then F_X1_read_L9 S fuel (A 189) (v19.1 + ki 1) (nI acc.length + ki 1) h21 else some (.inl (v19.1, h21)) else some (.inl (ki (-1), h21))) else some (.inl (nI p + nI (ft_ v p k), h))) = x → F_X1_read_L9 S (fuel + 1) (A 189) (nI p) (nI acc.length) h = x := fun x ex => by
      rw [← ex, F_X1_read_L9, if_neg (show ¬ kb 15 ≤ nI acc.length by rw [kk_b15]; exact nI_ge (by omega) (by decide)), O_is hW, Option.bind_some, far_F hW t m (O_is hW) (by omega), hkd, Option.bind_some, fo_k k hk, Option.bind_some, Option.bind_some, fit_F hW t m hk (by omega), Option.bind_some, Option.bind_some, mk_ms m hk, Option.bind_some, mk_len m hk, Option.bind_some]
      rfl
    have epr : pr_ v f (n + 1) p acc = if (rn_ v (fx_tx k) p).2 = true then (if oe_ v p k < f then (if v (oe_ v p k) = 59 then pr_ v f n (oe_ v p k + 1) (acc ++ [(k, p)]) else (some (oe_ v p k), acc ++ [(k, p)])) else (none, acc ++ [(k, p)])) else (some (rn_ v (fx_tx k) p).1, acc) := by
      rw [← hkd]
      rfl
    rw [epr]
    by_cases hr : (rn_ v (fx_tx k) p).2 = true
    · rw [if_pos hr]
      obtain ⟨h1, Z1, e1, W1, m1, a190, aN, aO⟩ := ord_F hW t m hk (o := acc.length) (by omega) (by omega) hr
      obtain ⟨h2, e2, W2, m2⟩ := WD_pc (x := nI (acc.length + 1)) W1 m1
      have t2 : TX_ (w2_ Z1 189 3 (nI (acc.length + 1))) cap f v := TX_cg t (by rw [w2_ne (by decide), aO 207 (by decide) (by omega)]) (by rw [w2_ne (by decide), aO 208 (by decide) (by omega)])
      have c2 : CO_ v (w2_ Z1 189 3 (nI (acc.length + 1))) (acc ++ [(k, p)]) := CO_push c hk w2_at (by rw [w2_ne (by decide), a190]) (fun j hj => by rw [w2_ne (by omega)]; exact aN j hj) (fun i hi => by rw [w2_ne (by omega), aO _ (by omega) (by omega)])
      have z2 : ∀ a, (a < 189 ∨ 207 ≤ a) → w2_ Z1 189 3 (nI (acc.length + 1)) a = Z a := fun a ha => by rw [w2_ne (by omega), aO a (by omega) (by omega)]
      obtain ⟨ho1, ho2⟩ := oe_le t hk hr
      have lead2 : ∀ x, (if nI (oe_ v p k) < nI f then (F_J4_charAt_5068e S h2 (A 207) (nI (oe_ v p k))).bind fun v32 => if v32 = kb 59 then F_X1_read_L9 S fuel (A 189) (nI (oe_ v p k + 1)) (nI (acc.length + 1)) h2 else some (.inl (nI (oe_ v p k), h2)) else some (.inl (ki (-1), h2))) = x → F_X1_read_L9 S (fuel + 1) (A 189) (nI p) (nI acc.length) h = x := fun x ex => by
        refine lead x ?_
        rw [← ex, if_pos (nI_le (by have := hle.2.2.mp hr; omega) (by omega)), e1, Option.bind_some]
        simp only [nI_s, e2, Option.bind_some, Z_txt W2, q_is W2, t_len W2 t2]
      by_cases hq : oe_ v p k < f
      · rw [if_pos hq]
        by_cases h59 : v (oe_ v p k) = 59
        · rw [if_pos h59]
          obtain ⟨h3, Z3, e3, W3, c3, z3⟩ := ih (oe_ v p k + 1) fuel (acc ++ [(k, p)]) _ h2 (by rw [List.length_append, List.length_singleton]; omega) (by omega) (by omega) W2 t2 m2 c2
          rw [List.length_append, List.length_singleton] at e3
          refine ⟨h3, Z3, ?_, W3, c3, fun a ha => by rw [z3 a ha, z2 a ha]⟩
          rcases e3 with e3 | e3
          · left
            refine lead2 _ ?_
            rw [if_pos (nI_lt hq (by omega)), t_at W2 t2 hq, Option.bind_some, h59, if_pos (by decide), e3]
          · right
            refine lead2 _ ?_
            rw [if_pos (nI_lt hq (by omega)), t_at W2 t2 hq, Option.bind_some, h59, if_pos (by decide), e3]
        · rw [if_neg h59]
          refine ⟨h2, _, .inl (lead2 _ ?_), W2, c2, z2⟩
          have := t_v t (oe_ v p k)
          rw [if_pos (nI_lt hq (by omega)), t_at W2 t2 hq, Option.bind_some, kk_b59, if_neg (fun q => h59 ((nI_eq (by omega) (by decide)).mp q))]
          rfl
      · rw [if_neg hq]
        refine ⟨h2, _, .inl (lead2 _ ?_), W2, c2, z2⟩
        rw [if_neg (nI_nlt (by omega) (by omega))]
        rfl
    · rw [if_neg hr]
      refine ⟨h, Z, .inl (lead _ ?_), hW, c, fun _ _ => rfl⟩
      have h3 : ft_ v p k < (fx_tx k).length := by
        have : ¬ (rn_ v (fx_tx k) p).1 = p + (fx_tx k).length := fun q => hr (hle.2.2.mpr q)
        omega
      rw [if_neg (nI_ge h3 (by omega)), nI_add, show p + ft_ v p k = (rn_ v (fx_tx k) p).1 from by omega]
      rfl
theorem read_F (hW : WD_ A GG Z XL cap K h) (t : TX_ Z cap f v) (m : MK_ S h) : ∃ h' Z', F_X1_read S h (A 189) = some (fI_ (pr_ v f 15 0 []).1, h') ∧ WD_ A GG Z' XL cap K h' ∧ CO_ v Z' (pr_ v f 15 0 []).2 ∧ ∀ a, (a < 189 ∨ 207 ≤ a) → Z' a = Z a := by
  obtain ⟨h1, e1, W1, m1⟩ := WD_pc (x := nI 0) hW m
  have t1 : TX_ (w2_ Z 189 3 (nI 0)) cap f v := TX_cg t (w2_ne (by decide)) (w2_ne (by decide))
  obtain ⟨h2, Z2, e2, W2, c2, z2⟩ := read_L 15 0 1000 [] _ h1 rfl (Nat.zero_le _) (by decide) W1 t1 m1 ⟨w2_at, fun i hi => absurd hi (by simp)⟩
  refine ⟨h2, Z2, ?_, W2, c2, fun a ha => by rw [z2 a ha, w2_ne (by omega)]⟩
  unfold F_X1_read
  rw [kj_i0, e1, Option.bind_some]
  rcases e2 with e2 | e2
  · rw [show F_X1_read_L9 S 1000 (A 189) (nI 0) (nI 0) h1 = _ from e2, Option.bind_some]
  · rw [show F_X1_read_L9 S 1000 (A 189) (nI 0) (nI 0) h1 = _ from e2, Option.bind_some]
end CS2
