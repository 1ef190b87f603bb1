section AQ
variable {A A' : Nat → Nat} {GG : Nat → Nat → Nat} {Z z z' : Nat → Nat → Int32} {XL : Nat → Int64} {cap : Nat} {K : Nat → mm_Ce} {h h1 : mm_S} {n : Nat} {S : Nat → Nat} {X : mm_Cl} {d c k : Nat}
/-- what is owed of an operation: how it ended, the model's answer, and what holds behind it -/
def GO_ (A : Nat → Nat) (K : Nat → mm_Ce) (ex : List String) (m : mm_S → Option (Int32 × mm_S)) (o : Int32 ⊕ String) (h1 : mm_S) : Prop := ∃ A' v k, (∀ i, i ≠ 208 → A' i = A i) ∧ OK_ ex o v k ∧ MS_ A' K h1 m v k
theorem GO_of {ex : List String} {c : Option ((Int32 ⊕ String) × mm_S)} {m : mm_S → Option (Int32 × mm_S)} (r : RS_ A K ex c m) : ∃ o h1, c = some (o, h1) ∧ GO_ A K ex m o h1 := by
  obtain ⟨o, h1, v, k, e1, e2, e3⟩ := r
  exact ⟨o, h1, e1, A, v, k, fun _ _ => rfl, e2, e3⟩
theorem ap_model (hW : WD_ A GG Z XL cap K h) {f v : Nat} (hf : f < 60) (e19 : Z 213 19 = nI f) (hv : 32 ≤ v ∧ v ≤ 126) : F_X6_append h (A 213) (nI v) = some (nI (f + 1), mv_ (lm_ A) (w2_ (w2_ (m5_ (mw_ Z) (nI 0)) 7 f (nI v)) 0 19 (nI (f + 1))) h) := by
  obtain ⟨hl, em⟩ := WD_m hW
  have e5 := m5_e (M := mw_ Z) (v := nI 0) hl
  rw [em] at e5
  have a1 : m5_ (mw_ Z) (nI 0) 0 19 = nI f := (m5_0 (by decide)).trans e19
  have a2 : w2_ (m5_ (mw_ Z) (nI 0)) 7 f (nI v) 0 19 = nI f := (w2_n2 (by omega)).trans a1
  have a3 : w2_ (w2_ (m5_ (mw_ Z) (nI 0)) 7 f (nI v)) 0 19 (nI (f + 1)) 0 19 = nI (f + 1) := w2_at
  have hin : In_ (kb 32) (kb 126) (nI v) = true := by
    rw [In_iff, kk_b32, kk_b126, nI_leI (by decide) (by omega), nI_leI (by omega) (by decide)]
    exact hv
  show F_X6_append h (lm_ A 0) (nI v) = _
  unfold F_X6_append
  rw [kj_i0, e5, Option.bind_some, m_in, Option.bind_some, if_pos (fun q => bI_0.mp q hin), mg_19 hl, Option.bind_some, a1, kk_b60, if_pos (fun q => by have := (nI_eq (by omega) (by decide)).mp q; omega), mr_16 hl, Option.bind_some, Option.bind_some, ms_7 hl hf, Option.bind_some, mg_19 hl, Option.bind_some, a2, nI_s, mp_19 hl, Option.bind_some, mg_19 hl, Option.bind_some, a3]
/-- both worlds behind a character more -/
theorem ap_end (hW : WD_ A GG Z XL cap K h1) (s : SM_ GG Z XL cap) (s0 : ∀ j, j < 11 → Z (213 + j) = Z (213 + j)) {f v : Nat} (hf : f < 60) (hfc : f < cap) (e19 : Z 213 19 = nI f) (hv : 32 ≤ v ∧ v ≤ 126) (ht : tx_ f (Z 208) (Z 220)) (hcap : (cap = 16 ∨ cap = 34 ∨ cap = 70) ∧ cap ≤ 70) (ez : z' 0 3 = nI (f + 1)) (ez1 : z' 1 = upd (Z 208) f (nI v)) {ex : List String} : GO_ A K ex (fun h => F_X6_append h (A 213) (nI v)) (.inl (nI (f + 1))) (tv2_ (tq_ A) z' cap h1) := by
  refine ⟨A, nI (f + 1), nI 0, fun _ _ => rfl, .inl ⟨rfl, rfl⟩, ⟨_, _, _, _, WD_qp (z := z') hW⟩, fun K2 H HX => ?_⟩
  have W1 := HX _ _ _ _ (WD_qp (z := z') hW)
  have emw : mw_ (zu_ Z 207 2 z') = mw_ Z := by
    funext j
    show zu_ Z 207 2 z' (213 + j) = Z (213 + j)
    exact zu_out (by omega)
  have emd := ap_model W1 hf (show zu_ Z 207 2 z' 213 19 = nI f by rw [zu_out (by decide)]; exact e19) hv
  rw [emw] at emd
  have W2 := WD_mp (M' := w2_ (w2_ (m5_ (mw_ Z) (nI 0)) 7 f (nI v)) 0 19 (nI (f + 1))) W1
  refine ⟨_, emd, ?_, _, _, _, _, W2, ?_⟩
  · rw [mg5 W2, show zu_ (zu_ Z 207 2 z') 213 11 (w2_ (w2_ (m5_ (mw_ Z) (nI 0)) 7 f (nI v)) 0 19 (nI (f + 1))) 213 = _ from zm_in (j := 0) (by decide), w2_n2 (by omega), w2_n2 (by omega)]
    exact congrArg some w5_5
  · refine tx_SM s (f := f + 1) (by omega) ez w2_at (by omega) hcap (fun k hk => ?_) (fun a h0 h7 => ?_) (fun k h5 h19 => ?_)
    · rw [ez1, w2_ne (by decide), w2_upd, m5_r (by decide)]
      unfold upd
      by_cases e : k = f
      · rw [if_pos e, if_pos e]
        exact ⟨rfl, v, hv.1, hv.2, rfl⟩
      · rw [if_neg e, if_neg e]
        exact ht k (by omega)
    · rw [w2_ne h0, w2_ne h7, m5_r h0]
    · rw [w2_n2 (by omega), w2_ne (by decide), m5_0 h5]
theorem tb_chr5 {l : Nat → Nat} {s : List Nat} (hl : ov_L 2 l h) (hc : cap < 71) {f : Nat} (hs : z 0 3 = nI f) (hn : f < cap) {v : Nat} (hv : v < 127) : ∃ z', F_J5_append_3fe6f S (tv2_ l z cap h) (l 0) (nI v) = some (l 0, tv2_ l z' cap h) ∧ F_J4_append_cf468 S (tv2_ l z cap h) (l 0) (nI v) = some (l 0, tv2_ l z' cap h) ∧ z' 0 3 = nI (f + 1) ∧ z' 1 = upd (z 1) f (nI v) := by
  have e5 : F_J5_append_3fe6f S (tv2_ l z cap h) (l 0) (nI v) = some (l 0, tv2_ l (w2_ (w2_ z 0 3 (nI (f + 1))) 1 f (nI v)) cap h) := by
    unfold F_J5_append_3fe6f F_J1_canEncode_fc78d
    rw [tv2_n hl, Option.bind_some, tv2_is hl, Option.bind_some, hs, nI_s, tv2_ens hl hc (by omega), Option.bind_some, tv2_is hl, Option.bind_some, tv2_lat hl, Option.bind_some, if_neg (by decide), if_neg (tb_byt v hv).2.2.1, Option.bind_some, if_neg (by decide), tv2_r hl, Option.bind_some, tv2_n hl, Option.bind_some, hs, nI_s, tv2_pn hl, Option.bind_some, (tb_byt v hv).2.1, tv2_sB hl hn hc hv, Option.bind_some]
  refine ⟨_, e5, ?_, ?_, ?_⟩
  · unfold F_J4_append_cf468
    rw [tv2_is hl, Option.bind_some, e5, Option.bind_some]
  · rw [w2_ne (by decide), w2_at]
  · rw [w2_upd, w2_ne (by decide)]
theorem q_is (hW : WD_ A GG Z XL cap K h) : fx_is h (A 207) 7 = some () := by
  have e := tv2_is (z := fun j => Z (207 + j)) (cap := cap) (WD_qv hW).1
  rw [(WD_qv hW).2] at e
  exact e
theorem q_len (hW : WD_ A GG Z XL cap K h) : F_J4_length_8abf5 h (A 207) = some (Z 207 3) := by
  have e := tb_len (z := fun j => Z (207 + j)) (cap := cap) (WD_qv hW).1
  rw [(WD_qv hW).2] at e
  exact e
theorem by_fit : ∀ v : Nat, v < 127 → fits .byte (.int (nI v)) = true := by decide +kernel
theorem u_append (hX : mm_mono X) (hS : mm_XS S X) (hs : ST_ A K h) (x : Int32) (hc : 1 ≤ c) (hk : 70 ≤ k) {Q : mm_Re → Prop} (hQ : ∀ o h1, GO_ A K exAS_ (fun h => F_X6_append h (A 213) x) o h1 → Q (fx_oI o, h1)) : mm_Run X (d + 6) 98 c k [.ref (A 209), .int x] h Q := by
  obtain ⟨GG, Z, XL, cap, hW, s⟩ := hs
  obtain ⟨f, hf, ef, ef2, hfc, hcap, hcap2, htx⟩ := s.2.2.2.2.2.2.1
  have hcap3 : cap = 16 ∨ cap = 34 ∨ cap = 70 := hcap
  by_cases hin : In_ (kb 32) (kb 126) x = true
  · obtain ⟨v, hv, rfl⟩ : ∃ v, (32 ≤ v ∧ v ≤ 126) ∧ x = nI v := by
      have hi := In_iff.mp hin
      rw [kk_b32, kk_b126] at hi
      obtain ⟨v, hv, rfl⟩ := nI_of (x := x) (fun q => absurd (Int32.le_trans hi.1 (Int32.le_of_lt q)) (by decide))
      rw [nI_leI (by decide) hv, nI_leI hv (by decide)] at hi
      exact ⟨v, hi, rfl⟩
    have hR : F_X5_isInRange h (nI v) (kb 32) (kb 126) = some (nI 1) := by rw [c_in, bI_t hin]; rfl
    by_cases h60 : f < 60
    · by_cases hfull : f < cap
      · obtain ⟨z', e5, e4, z0, z1⟩ := tb_chr5 (S := S) (s := []) (z := fun j => Z (207 + j)) (WD_qv hW).1 (by omega) ef hfull (show v < 127 by omega)
        rw [(WD_qv hW).2] at e4
        have g := ap_end (z' := z') (ex := exAS_) hW s (fun _ _ => rfl) h60 hfull ef2 hv htx ⟨hcap, hcap2⟩ z0 z1
        have W1 := WD_qp (z := z') hW
        refine r_X5_append hX hS (d := d) ⟨hc, by omega⟩ (o := (.inl (nI (f + 1)), tv2_ (tq_ A) z' cap h)) ?_ (hQ _ _ g)
        unfold F_X5_append
        rw [hR, Option.bind_some, if_pos (by decide), X_ord hW, Option.bind_some, Z_txt hW, Option.bind_some, q_is hW, Option.bind_some, q_len hW, Option.bind_some, ef, kk_b60, if_pos (nI_lt h60 (by decide)), Option.bind_some, Z_txt hW, Option.bind_some, q_is hW, Option.bind_some, show F_J4_append_cf468 S h (A 207) (nI v) = _ from e4, Option.bind_some]
        dsimp only
        rw [X_ord W1, Option.bind_some, Z_txt W1, Option.bind_some, q_is W1, Option.bind_some, q_len W1, Option.bind_some, show zu_ Z 207 2 z' 207 = z' 0 from zu_in (j := 0) (by decide), z0]
      · have efc : f = cap := by omega
        subst efc
        have hq7 : A 207 ∈ h.1 := hW.1 207 (by decide)
        have hq8 : A 208 ∈ h.1 := hW.1 208 (by decide)
        have c7 : h.2 (A 207) = .inr (7, [.ref (A 208), .int 0, .int (Z 207 2), .int (nI f)]) := by
          rw [hW.2.2 207 (by decide), show Cw_ A GG Z XL f K 207 = _ from WD_qc (j := 0) (by decide)]
          show (.inr (7, [.ref (A 208), .int 0, .int (Z 207 2), .int (Z 207 3)]) : mm_Ce) = _
          rw [ef]
        have c8 : h.2 (A 208) = .inl (4, f, .inl (Z 208)) := by
          rw [hW.2.2 208 (by decide), show Cw_ A GG Z XL f K 208 = _ from WD_qc (j := 1) (by decide)]
          rfl
        refine gr_append hX hS hR (X_ord hW) (Z_txt hW) (by rw [kk_b60]; exact nI_lt h60 (by decide)) hq7 c7 hq8 c8 (by omega) (fun i hi => ?_) hc (by omega) (fun q hqn => ?_)
        · obtain ⟨e1, w, hw1, hw2, e2⟩ := htx i hi
          rw [e1, e2]
          exact by_fit w (by omega)
        · have W1 := WD_grow hW s.2.1 hqn ef
          generalize hH : gr_h h (A 207) q f (Z 208) (Z 207 2) (nI f) = H at *
          generalize hZ2 : (fun i => if i = 208 then va_cpy (Z 208) (fun _ => 0) 0 0 f else Z i) = Z2 at *
          have z2 : ∀ i, i ≠ 208 → Z2 i = Z i := fun i hi => by rw [← hZ2]; exact if_neg hi
          have z28 : ∀ i, i < f → Z2 208 i = Z 208 i := fun i hi => by
            rw [← hZ2]
            show (if 208 = 208 then va_cpy (Z 208) (fun _ => 0) 0 0 f else Z 208) i = _
            rw [if_pos rfl]
            unfold va_cpy
            rw [if_pos (by omega), Nat.zero_add, Nat.sub_zero]
          have a9 : va_up A 208 q 209 = A 209 := va_up_ne _ _ (by decide)
          have a7 : va_up A 208 q 207 = A 207 := va_up_ne _ _ (by decide)
          have a89 : va_up A 208 q 189 = A 189 := va_up_ne _ _ (by decide)
          have a13 : va_up A 208 q 213 = A 213 := va_up_ne _ _ (by decide)
          have s2 : SM_ GG Z2 XL (2 * f + 2) := by
            obtain ⟨s1, s2, s3, ⟨c, p, hc, hp, ec, ep, em6, s4⟩, s5, s6, s7, s8⟩ := s
            refine ⟨?_, s2, ?_, ⟨c, p, hc, hp, ?_, ?_, ?_, fun i hi => ?_⟩, ?_, ?_, ⟨f, hf, ?_, ?_, by omega, by omega, by omega, ?_⟩, ?_⟩
            · rw [z2 214 (by decide)]
              exact TR_cg s1 rfl (fun i hi => z2 _ (by omega)) (fun _ _ => rfl)
            · rw [z2 209 (by decide), z2 213 (by decide), z2 217 (by decide)]
              exact ⟨s3.1, s3.2.elim .inl (fun q => .inr ⟨q.1, TR_cg q.2 rfl (fun i hi => z2 _ (by omega)) (fun _ _ => rfl)⟩)⟩
            · rw [z2 209 (by decide), ec]
            · rw [z2 209 (by decide), ep]
            · rw [z2 213 (by decide), em6]
            · rw [z2 218 (by decide)]
              have hm := Nat.mod_lt (p + 8 - c + i) (show 0 < 8 by decide)
              exact TR_cg (s4 i hi) rfl (fun j hj => z2 _ (by omega)) (fun _ _ => rfl)
            · rw [z2 213 (by decide)]
              exact s5
            · rw [z2 209 (by decide), z2 213 (by decide)]
              exact s6
            · rw [z2 207 (by decide), ef]
            · rw [z2 213 (by decide), ef2]
            · intro k hk
              rw [z28 k hk, z2 220 (by decide)]
              exact htx k hk
            · rw [z2 211 (by decide), z2 212 (by decide), z2 213 (by decide), z2 223 (by decide)]
              exact s8
          have ht2 : tx_ f (Z2 208) (Z2 220) := fun k hk => by rw [z28 k hk, z2 220 (by decide)]; exact htx k hk
          obtain ⟨z', e5, e4, z0, z1⟩ := tb_chr5 (S := S) (s := []) (z := fun j => Z2 (207 + j)) (cap := 2 * f + 2) (WD_qv W1).1 (by omega) (show Z2 207 3 = nI f by rw [z2 207 (by decide)]; exact ef) (by omega) (show v < 127 by omega)
          rw [(WD_qv W1).2] at e5
          have g := ap_end (z' := z') (ex := exAS_) W1 s2 (fun _ _ => rfl) h60 (by omega) (show Z2 213 19 = nI f by rw [z2 213 (by decide)]; exact ef2) hv ht2 (by omega) z0 z1
          rw [a13] at g
          have W2 := WD_qp (z := z') W1
          have x1 := X_ord W2
          have x2 := Z_txt W2
          have x3 := q_is W2
          have x4 := q_len W2
          rw [a9, a89] at x1
          rw [a89, a7] at x2
          rw [a7] at x3 x4
          rw [show zu_ Z2 207 2 z' 207 = z' 0 from zu_in (j := 0) (by decide), z0] at x4
          have y1 := tv2_n (z := fun j => Z2 (207 + j)) (cap := 2 * f + 2) (WD_qv W1).1
          have y2 := tv2_ens (z := fun j => Z2 (207 + j)) (cap := 2 * f + 2) (n := f + 1) (WD_qv W1).1 (by omega) (by omega)
          rw [(WD_qv W1).2] at y1 y2
          have a7' : tq_ (va_up A 208 q) 0 = A 207 := a7
          rw [a7'] at y1 y2 e5
          refine ⟨(A 207, tv2_ (tq_ (va_up A 208 q)) z' (2 * f + 2) H), nI (f + 1), e5, y1.trans (congrArg some (show Z2 207 3 = nI f by rw [z2 207 (by decide)]; exact ef)), y2, x1, x2, x3, x4, ?_⟩
          obtain ⟨A2, v2, k2, g1, g2, g3⟩ := g
          exact hQ (.inl (nI (f + 1))) _ ⟨A2, v2, k2, fun i hi => (g1 i hi).trans (va_up_ne _ _ hi), g2, g3⟩
    · have ef60 : f = 60 := by omega
      subst ef60
      refine r_X5_append hX hS (d := d) ⟨hc, by omega⟩ (o := (.inr "java/lang/IllegalStateException", h)) ?_ (hQ (.inr "java/lang/IllegalStateException") h ⟨A, nI 0, nI 2, fun _ _ => rfl, .inr ⟨1, _, rfl, rfl, rfl⟩, ⟨_, _, _, _, hW⟩, fun K h HX => ?_⟩)
      · unfold F_X5_append
        rw [hR, Option.bind_some, if_pos (by decide), X_ord hW, Option.bind_some, Z_txt hW, Option.bind_some, q_is hW, Option.bind_some, q_len hW, Option.bind_some, ef, kk_b60, if_neg (by decide)]
      · have hW := HX _ _ _ _ hW
        have nb := NB_no (h1 := h) (v := nI 2) hW s
        obtain ⟨hl, em⟩ := WD_m hW
        have e5 := m5_e (M := mw_ Z) (v := nI 0) hl
        rw [em] at e5
        refine ⟨_, ?_, nb.2, nb.1⟩
        show F_X6_append h (lm_ A 0) (nI v) = _
        unfold F_X6_append
        rw [kj_i0, e5, Option.bind_some, m_in, Option.bind_some, if_pos (fun q => bI_0.mp q hin), mg_19 hl, Option.bind_some, (m5_0 (by decide)), show mw_ Z 0 19 = nI 60 from ef2, kk_b60, if_neg (fun q => q rfl), mv_is hl, Option.bind_some, kj_i2, m5_n hl, Option.bind_some, m5_5]
  · refine r_X5_append hX hS (d := d) ⟨hc, by omega⟩ (o := (.inr "java/lang/IllegalArgumentException", h)) ?_ (hQ (.inr "java/lang/IllegalArgumentException") h ⟨A, nI 0, nI 1, fun _ _ => rfl, .inr ⟨0, _, rfl, rfl, rfl⟩, ⟨_, _, _, _, hW⟩, fun K h HX => ?_⟩)
    · unfold F_X5_append
      rw [c_in, Option.bind_some, if_neg (fun q => q (bI_0.mpr hin))]
    · have hW := HX _ _ _ _ hW
      have nb := NB_no (h1 := h) (v := nI 1) hW s
      obtain ⟨hl, em⟩ := WD_m hW
      have e5 := m5_e (M := mw_ Z) (v := nI 0) hl
      rw [em] at e5
      refine ⟨_, ?_, nb.2, nb.1⟩
      show F_X6_append h (lm_ A 0) x = _
      unfold F_X6_append
      rw [kj_i0, e5, Option.bind_some, m_in, Option.bind_some, if_neg (fun q => q (bI_0.mpr hin)), mv_is hl, Option.bind_some, kj_i1, m5_n hl, Option.bind_some, m5_5]
end AQ
