/-! the class reads orders -/
def na_ (k : Nat) : Nat := if k = 0 ∨ k = 3 then 3 else if k = 4 ∨ k = 5 ∨ k = 7 then 2 else if k < 8 then 1 else 0
def dt_ (c : Nat) : Prop := 48 ≤ c ∧ c ≤ 57
def oe_ (v : Nat → Nat) (p k : Nat) : Nat := if k = 0 ∧ (48 ≤ v (p + 10) ∧ v (p + 10) ≤ 57) then p + 11 else p + (fx_tx k).length
def on_ (v : Nat → Nat) (p k j : Nat) : Nat :=
  if j = 0 then (if k < 8 then v (p + (wd_ k).length + 1) - 48 else 0)
  else if j = 1 then (if k = 0 then v (p + 7) - 48 else if k = 3 ∨ k = 4 ∨ k = 5 ∨ k = 7 then v (p + (wd_ k).length + 3) - 48 else 0)
  else if k = 0 then (if 48 ≤ v (p + 10) ∧ v (p + 10) ≤ 57 then 10 * (v (p + 9) - 48) + (v (p + 10) - 48) else v (p + 9) - 48) else if k = 3 then v (p + 10) - 48 else 0
def nr_ (v : Nat → Nat) (p : Nat) : List Nat → Nat → Nat → (Nat → Int32) → Nat → Int32
  | [], _, _, r => r
  | t :: ts, i, nx, r => if t = 35 ∧ nx < 3 then nr_ v p ts (i + 1) (nx + 1) (upd r nx (nI (v (p + i)) - nI 48)) else nr_ v p ts (i + 1) nx r
def pr_ (v : Nat → Nat) (f : Nat) : Nat → Nat → List (Nat × Nat) → Option Nat × List (Nat × Nat)
  | 0, p, acc => (some p, acc)
  | n + 1, p, acc => if (rn_ v (fx_tx (kf_ v p 9).1) p).2 = true then (if oe_ v p (kf_ v p 9).1 < f then (if v (oe_ v p (kf_ v p 9).1) = 59 then pr_ v f n (oe_ v p (kf_ v p 9).1 + 1) (acc ++ [((kf_ v p 9).1, p)]) else (some (oe_ v p (kf_ v p 9).1), acc ++ [((kf_ v p 9).1, p)])) else (none, acc ++ [((kf_ v p 9).1, p)])) else (some (rn_ v (fx_tx (kf_ v p 9).1) p).1, acc)
def fI_ (o : Option Nat) : Int32 := match o with
  | none => ki (-1)
  | some q => nI q
section CR
variable {A : Nat → Nat} {GG : Nat → Nat → Nat} {Z : Nat → Nat → Int32} {XL : Nat → Int64} {cap f p o k : Nat} {K : Nat → mm_Ce} {h : mm_S} {S : Nat → Nat} {v : Nat → Nat}
theorem mk_put (m : MK_ S h) {q : Nat} {c : mm_Ce} (hq : h.2 q ≠ .inr (9, [])) : MK_ S (mm_put h q c) := by
  refine ⟨fun i hi => ?_, m.2⟩
  have hne : S i ≠ q := fun e => hq (by rw [← e]; exact m.1 i hi)
  show va_up h.2 q c (S i) = _
  rw [va_up_ne _ _ hne, m.1 i hi]
theorem w2_z {b k : Nat} {x : Int32} {Z' : Nat → Nat → Int32} (hZ : Z' = w2_ Z b k x) : ∀ i, ¬ (b ≤ i ∧ i < b + 1) → Z' i = Z i := fun i hi => by rw [hZ, w2_ne (by omega)]
theorem WD_sI (hW : WD_ A GG Z XL cap K h) (m : MK_ S h) {i n j : Nat} {x : Int32} (hi : 176 ≤ i ∧ i < 224) (h9 : i ≠ 209) (hc : ∀ Z, Cw_ A GG Z XL cap K i = .inl (0, n, .inl (Z i))) (hj : j < n) (hn : n < 2 ^ 31) : ∃ h', fx_sI h (A i) (nI j) x = some h' ∧ WD_ A GG (w2_ Z i j x) XL cap K h' ∧ MK_ S h' := by
  have e1 := hW.2.2 i (by omega)
  rw [hc] at e1
  refine ⟨_, ?_, W_cg (W_put1 (c := .inl (0, n, .inl (upd (Z i) j x))) hW (show i < 226 by omega)) (fun a ha => ?_), mk_put m (by rw [e1]; exact fun q => by cases q)⟩
  · unfold fx_sI fx_arI
    rw [if_pos (hW.1 i (by omega)), e1]
    dsimp only
    rw [if_pos (by decide), Option.bind_some]
    dsimp only
    rw [if_pos (fx_in_nI hj hn), nI_clamp (by omega)]
  · by_cases e : a = i
    · subst e
      rw [va_up_self, hc, w2_upd]
    · rw [va_up_ne _ _ e]
      exact Cw_z (b := i) (n := 1) (kk := 0) (w2_z rfl) (by omega) (fun _ _ => rfl) (.inr hi.1) (.inr rfl)
theorem zc_k : ∀ Z, Cw_ A GG Z XL cap K 190 = .inl (0, 15, .inl (Z 190)) := fun Z => WD_zc (j := 1) (by decide)
theorem zc_n (ho : o < 15) : ∀ Z, Cw_ A GG Z XL cap K (192 + o) = .inl (0, 3, .inl (Z (192 + o))) := fun Z => by
  have e := WD_zc (A := A) (GG := GG) (Z := Z) (XL := XL) (cap := cap) (K := K) (j := o + 3) (by omega)
  rw [show 189 + (o + 3) = 192 + o from by omega] at e
  rw [e]
  unfold zc_
  split <;> first | (exfalso; omega) | skip
  show (.inl (0, 3, .inl (Z (189 + (o + 3)))) : mm_Ce) = _
  rw [show 189 + (o + 3) = 192 + o from by omega]
theorem WD_pc (hW : WD_ A GG Z XL cap K h) (m : MK_ S h) {x : Int32} : ∃ h', fx_pV h (A 189) 1 3 (.int x) = some h' ∧ WD_ A GG (w2_ Z 189 3 x) XL cap K h' ∧ MK_ S h' := by
  have e1 := hW.2.2 189 (by decide)
  rw [show Cw_ A GG Z XL cap K 189 = .inr (1, fO_ (lz_ A) (Z 189)) from WD_zc (j := 0) (by decide)] at e1
  refine ⟨_, ?_, W_cg (W_put1 (c := .inr (1, fO_ (lz_ A) (upd (Z 189) 3 x))) hW (show 189 < 226 by decide)) (fun a ha => ?_), mk_put m (by rw [e1]; exact fun q => by cases q)⟩
  · unfold fx_pV fx_obj
    rw [if_pos (hW.1 189 (by decide)), e1]
    dsimp only
    rw [if_pos rfl, Option.bind_some, if_pos ⟨show 3 < 4 by decide, fit_int x⟩]
    rfl
  · by_cases e : a = 189
    · subst e
      rw [va_up_self, show Cw_ A GG (w2_ Z 189 3 x) XL cap K 189 = .inr (1, fO_ (lz_ A) (w2_ Z 189 3 x 189)) from WD_zc (j := 0) (by decide), w2_upd]
    · rw [va_up_ne _ _ e]
      exact Cw_z (b := 189) (n := 1) (kk := 0) (w2_z rfl) (by omega) (fun _ _ => rfl) (.inr (by decide)) (.inr rfl)
theorem O_is (hW : WD_ A GG Z XL cap K h) : fx_is h (A 189) 1 = some () := by
  have z := ox_is (c := zc_ (lz_ A) (zw_ Z) cap) (WD_zv hW).1 (show 0 < 20 by decide) rfl
  rw [(WD_zv hW).2] at z
  exact z
theorem O_r1 (hW : WD_ A GG Z XL cap K h) : fx_gR h (A 189) 1 1 = some (A 190) := by
  have z := ox_gR (c := zc_ (lz_ A) (zw_ Z) cap) (k := 1) (WD_zv hW).1 (show 0 < 20 by decide) rfl rfl
  rw [(WD_zv hW).2] at z
  exact z
theorem O_r2 (hW : WD_ A GG Z XL cap K h) : fx_gR h (A 189) 1 2 = some (A 191) := by
  have z := ox_gR (c := zc_ (lz_ A) (zw_ Z) cap) (k := 2) (WD_zv hW).1 (show 0 < 20 by decide) rfl rfl
  rw [(WD_zv hW).2] at z
  exact z
theorem O_n (hW : WD_ A GG Z XL cap K h) : fx_gI h (A 189) 1 3 = some (Z 189 3) := by
  have z := ox_gI (c := zc_ (lz_ A) (zw_ Z) cap) (k := 3) (WD_zv hW).1 (show 0 < 20 by decide) rfl rfl
  rw [(WD_zv hW).2] at z
  exact z
theorem O_aR (hW : WD_ A GG Z XL cap K h) (ho : o < 15) : fx_aR h (A 191) (nI o) = some (A (192 + o)) := by
  have z := ox_aR (c := zc_ (lz_ A) (zw_ Z) cap) (j := o) (v := A (192 + o)) (WD_zv hW).1 (show 2 < 20 by decide) rfl (by decide) ho (by decide) (by unfold aR_; rw [if_pos ho]; show some (A (189 + (o + 3))) = _; rw [show 189 + (o + 3) = 192 + o from by omega])
  rw [(WD_zv hW).2] at z
  exact z
theorem O_aI (hW : WD_ A GG Z XL cap K h) (ho : o < 15) {j : Nat} (hj : j < 3) : fx_aI h (A (192 + o)) (nI j) = some (Z (192 + o) j) := by
  have e1 := hW.2.2 (192 + o) (by omega)
  rw [zc_n ho] at e1
  unfold fx_aI fx_arI
  rw [if_pos (hW.1 _ (by omega)), e1]
  dsimp only
  rw [if_pos (by decide), Option.bind_some]
  dsimp only
  rw [if_pos (fx_in_nI hj (by decide)), nI_clamp (by omega)]
theorem O_aK (hW : WD_ A GG Z XL cap K h) (ho : o < 15) : fx_aI h (A 190) (nI o) = some (Z 190 o) := by
  have e1 := hW.2.2 190 (by decide)
  rw [zc_k] at e1
  unfold fx_aI fx_arI
  rw [if_pos (hW.1 _ (by decide)), e1]
  dsimp only
  rw [if_pos (by decide), Option.bind_some]
  dsimp only
  rw [if_pos (fx_in_nI ho (by decide)), nI_clamp (by omega)]
theorem TX_cg {Z' : Nat → Nat → Int32} (t : TX_ Z cap f v) (e7 : Z' 207 = Z 207) (e8 : Z' 208 = Z 208) : TX_ Z' cap f v := by
  obtain ⟨t1, t2, t3, t4, t5, t6⟩ := t
  exact ⟨t1, t2, t3, by rw [e7]; exact t4, by rw [e8]; exact t5, t6⟩
/-- the digits of an order are taken -/
theorem row_L (hk : k < 9) (ho : o < 15) (x2 : Int32) (hlen : p + (fx_tx k).length ≤ f) : ∀ (ts : List Nat) (i nx n : Nat) (Z : Nat → Nat → Int32) (h : mm_S), WD_ A GG Z XL cap K h → TX_ Z cap f v → MK_ S h → (fx_tx k).drop i = ts → i + ts.length = (fx_tx k).length → ts.length < n → nx ≤ 3 → ∃ h' Z', F_X1_readOrder_L19 S n (A 189) (nI o) x2 (nI p) (S k) (nI nx) (nI i) h = some h' ∧ WD_ A GG Z' XL cap K h' ∧ MK_ S h' ∧ Z' (192 + o) = nr_ v p ts i nx (Z (192 + o)) ∧ ∀ a, a ≠ 192 + o → Z' a = Z a := by
  intro ts
  induction ts with
  | nil =>
    intro i nx n Z h hW t m hd hl hn hx
    obtain ⟨n, rfl⟩ : ∃ y, n = y + 1 := ⟨n - 1, by rw [List.length_nil] at hn; omega⟩
    have hl2 : (fx_tx k).length = i := hl.symm
    refine ⟨h, Z, ?_, hW, m, rfl, fun _ _ => rfl⟩
    rw [F_X1_readOrder_L19, mk_ms m hk, Option.bind_some, mk_len m hk, Option.bind_some, hl2, if_pos (Int32.le_refl _)]
  | cons c ts ih =>
    intro i nx n Z h hW t m hd hl hn hx
    obtain ⟨n, rfl⟩ : ∃ y, n = y + 1 := ⟨n - 1, by rw [List.length_cons] at hn; omega⟩
    have hlk := tx_len k hk
    have hf60 := t.1
    rw [List.length_cons] at hl hn
    have hi : i < (fx_tx k).length := by omega
    have hg : (fx_tx k).getD i 0 = c := by
      have e1 : ((fx_tx k).drop i)[0]? = some c := by rw [hd]; rfl
      rw [List.getElem?_drop, Nat.add_zero] at e1
      rw [List.getD_eq_getElem?_getD, e1]
      rfl
    have hc : c ≠ 0 ∧ c < 127 := by
      refine tx_ne0 k hk c ?_
      have : c ∈ (fx_tx k).drop i := by rw [hd]; exact List.mem_cons_self
      exact List.mem_of_mem_drop this
    have hd2 : (fx_tx k).drop (i + 1) = ts := by
      have : (fx_tx k).drop (i + 1) = ((fx_tx k).drop i).drop 1 := by rw [List.drop_drop]
      rw [this, hd]
      rfl
    have hpf : p + i < f := by omega
    have head : ∀ r, (if nI c ≠ nI 35 then F_X1_readOrder_L19 S n (A 189) (nI o) x2 (nI p) (S k) (nI nx) (nI (i + 1)) h else if ki 3 ≤ nI nx then F_X1_readOrder_L19 S n (A 189) (nI o) x2 (nI p) (S k) (nI nx) (nI (i + 1)) h else ((fx_sI h (A (192 + o)) (nI nx) (nI (v (p + i)) - nI 48)).bind fun h31 => F_X1_readOrder_L19 S n (A 189) (nI o) x2 (nI p) (S k) (nI (nx + 1)) (nI (i + 1)) h31)) = r → F_X1_readOrder_L19 S (n + 1) (A 189) (nI o) x2 (nI p) (S k) (nI nx) (nI i) h = r := fun r e => by
      rw [← e, F_X1_readOrder_L19, mk_ms m hk, Option.bind_some, mk_len m hk, Option.bind_some, if_neg (nI_ge hi (by omega)), Z_txt hW, Option.bind_some, q_is hW, Option.bind_some, t_len hW t, Option.bind_some, nI_add, if_neg (nI_ge hpf (by omega)), Option.bind_some, mk_at m hk hi, Option.bind_some, hg, kk_b35]
      simp only [O_r2 hW, O_aR hW ho, q_is hW, t_at hW t hpf, Option.bind_some, kk_b48, nI_s]
    by_cases h35 : c = 35 ∧ nx < 3
    · obtain ⟨h1, e1, W1, m1⟩ := WD_sI (j := nx) (x := nI (v (p + i)) - nI 48) hW m (show 176 ≤ 192 + o ∧ 192 + o < 224 by omega) (by omega) (zc_n ho) h35.2 (by decide)
      have t1 : TX_ (w2_ Z (192 + o) nx (nI (v (p + i)) - nI 48)) cap f v := TX_cg t (w2_ne (by omega)) (w2_ne (by omega))
      obtain ⟨h', Z', e2, W2, m2, r2, z2⟩ := ih (i + 1) (nx + 1) n _ h1 W1 t1 m1 hd2 (by omega) (by omega) (by omega)
      refine ⟨h', Z', head _ ?_, W2, m2, ?_, fun a ha => by rw [z2 a ha, w2_ne ha]⟩
      · rw [if_neg (fun q => q (by rw [h35.1])), if_neg (show ¬ ki 3 ≤ nI nx from nI_ge h35.2 (by decide)), e1, Option.bind_some, e2]
      · rw [r2, w2_upd]
        show _ = (if c = 35 ∧ nx < 3 then _ else _)
        rw [if_pos h35]
    · obtain ⟨h', Z', e2, W2, m2, r2, z2⟩ := ih (i + 1) nx n Z h hW t m hd2 (by omega) (by omega) hx
      refine ⟨h', Z', head _ ?_, W2, m2, ?_, z2⟩
      · by_cases hc35 : c = 35
        · have : nx = 3 := by omega
          subst this
          rw [if_neg (fun q => q (by rw [hc35])), if_pos (show ki 3 ≤ nI 3 by decide), e2]
        · rw [if_pos (fun q => hc35 ((nI_eq (by omega) (by decide)).mp q)), e2]
      · rw [r2]
        show _ = (if c = 35 ∧ nx < 3 then _ else _)
        rw [if_neg h35]
theorem rn_end (t : TX_ Z cap f v) (hk : k < 9) (h : (rn_ v (fx_tx k) p).2 = true) (hl : 0 < (fx_tx k).length) : p + (fx_tx k).length ≤ f := by
  have e := (rn_le v (fx_tx k) p).2.2.mp h
  have := rn_at v (fx_tx k) p ((fx_tx k).length - 1) (by omega)
  refine Decidable.byContradiction fun hn => ?_
  rw [t.2.2.2.2.2 (p + ((fx_tx k).length - 1)) (by omega)] at this
  refine ok1_0 ?_ this
  refine (tx_ne0 k hk _ ?_).1
  rw [List.getD_eq_getElem?_getD, List.getElem?_eq_getElem (by omega)]
  exact List.getElem_mem _
theorem rn_dg (h : (rn_ v (fx_tx k) p).2 = true) {i : Nat} (hi : i < (fx_tx k).length) (h35 : (fx_tx k).getD i 0 = 35) : 48 ≤ v (p + i) ∧ v (p + i) ≤ 57 := by
  have e := (rn_le v (fx_tx k) p).2.2.mp h
  have := rn_at v (fx_tx k) p i (by omega)
  rw [h35] at this
  unfold ok1_ at this
  rw [if_pos rfl, decide_eq_true_iff] at this
  exact this
theorem tx_pos : ∀ k : Nat, k < 9 → 3 ≤ (fx_tx k).length := by decide
end CR
