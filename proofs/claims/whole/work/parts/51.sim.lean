/-! class and reference hold the same -/
def gs_ (g : Nat → Nat) : Prop := (∀ j, j < 10 → si_ (g j)) ∧ ∀ i j, i < 10 → j < 10 → g i = g j → i = j
/-- treaty k of the class is the row T -/
def TR_ (GG : Nat → Nat → Nat) (Z : Nat → Nat → Int32) (k : Nat) (T : Nat → Int32) : Prop := ∃ n, R_ (GG k) (wt_ Z k) T n ∧ I_ T n
def rz_ (a b : Int32) : Int64 := if a = nI 0 then kl 0 else rf_ a b
def tx_ (f : Nat) (a b : Nat → Int32) : Prop := ∀ k, k < f → a k = b k ∧ ∃ q, 32 ≤ q ∧ q ≤ 126 ∧ b k = nI q
def SM_ (GG : Nat → Nat → Nat) (Z : Nat → Nat → Int32) (XL : Nat → Int64) (cap : Nat) : Prop :=
  TR_ GG Z 0 (Z 214) ∧ (∀ k, k < 11 → gs_ (GG k)) ∧
  (Z 209 3 = Z 213 14 ∧ (Z 209 3 = nI 0 ∨ (Z 209 3 = nI 1 ∧ TR_ GG Z 2 (Z 217)))) ∧
  (∃ c p, c ≤ 8 ∧ p < 8 ∧ Z 209 5 = nI c ∧ Z 209 6 = nI p ∧ Z 213 6 = nI c ∧ ∀ i, i < c → TR_ GG Z (3 + (p + 8 - c + i) % 8) (fun k => Z 218 (110 * i + k))) ∧
  (XL 10 = rz_ (Z 213 9) (Z 213 10) ∧ XL 11 = rz_ (Z 213 11) (Z 213 12)) ∧
  Z 209 9 = Z 213 13 ∧
  (∃ f, f ≤ 60 ∧ Z 207 3 = nI f ∧ Z 213 19 = nI f ∧ f ≤ cap ∧ (cap = 16 ∨ cap = 34 ∨ cap = 70) ∧ cap ≤ 70 ∧ tx_ f (Z 208) (Z 220)) ∧
  (∃ q, q ≤ 16 ∧ Z 211 3 = nI q ∧ Z 213 25 = nI q ∧ tx_ q (Z 212) (Z 223))
section SI
variable {A : Nat → Nat} {GG GG' : Nat → Nat → Nat} {Z Z' : Nat → Nat → Int32} {XL XL' : Nat → Int64} {cap : Nat} {K : Nat → mm_Ce} {h : mm_S} {k i : Nat}
theorem R_cg {g : Nat → Nat} {w w' : Nat → Nat → Int32} {T : Nat → Int32} {n : Nat} (R : R_ g w T n) (e : ∀ i, i < 16 → w' i = w i) : R_ g w' T n := by
  have hn := R_n R
  obtain ⟨R1, ⟨a0, a1, a2, a3, a4, a5, a6, a7⟩, R3, R4, R5, R6, R7⟩ := R
  refine ⟨R1, ⟨a0, ?_, ?_, ?_, ?_, ?_, ?_, ?_⟩, fun c hc => ?_, fun b c hb hc => ?_, fun j c hj hc => ?_, R6, R7⟩
  · rw [e 0 (by decide)]; exact a1
  · rw [e 0 (by decide)]; exact a2
  · rw [e 0 (by decide)]; exact a3
  · rw [e 0 (by decide)]; exact a4
  · rw [e 0 (by decide)]; exact a5
  · rw [e 0 (by decide)]; exact a6
  · rw [e 0 (by decide)]; exact a7
  · rw [e 2 (by decide)]; exact R3 c hc
  · rw [e (b + 4) (by omega)]; exact R4 b c hb hc
  · rw [e (g j) (R6 j (by omega)).2]; exact R5 j c hj hc
theorem R_cT {g : Nat → Nat} {w : Nat → Nat → Int32} {T T' : Nat → Int32} {n : Nat} (R : R_ g w T n) (e : ∀ i, i < 110 → T' i = T i) : R_ g w T' n := by
  have hn := R_n R
  obtain ⟨R1, ⟨a0, a1, a2, a3, a4, a5, a6, a7⟩, R3, R4, R5, R6, R7⟩ := R
  refine ⟨R1, ⟨?_, a1, ?_, ?_, ?_, ?_, ?_, ?_⟩, fun c hc => ?_, fun b c hb hc => ?_, fun j c hj hc => ?_, R6, R7⟩
  · rw [e 0 (by decide)]; exact a0
  · rw [e 1 (by decide)]; exact a2
  · rw [e 3 (by decide)]; exact a3
  · rw [e 2 (by decide)]; exact a4
  · rw [e 5 (by decide)]; exact a5
  · rw [e 8 (by decide)]; exact a6
  · rw [e 9 (by decide)]; exact a7
  · unfold oT_; rw [e _ (by omega)]; exact R3 c hc
  · unfold gT_; rw [e _ (by omega)]; exact R4 b c hb hc
  · unfold sT_; rw [e _ (by omega)]; exact R5 j c hj hc
theorem TR_cg {T T' : Nat → Int32} (t : TR_ GG Z k T) (eG : GG' k = GG k) (eZ : ∀ i, i < 16 → Z' (16 * k + i) = Z (16 * k + i)) (eT : ∀ i, i < 110 → T' i = T i) : TR_ GG' Z' k T' := by
  obtain ⟨n, R, I⟩ := t
  refine ⟨n, ?_, I_congr I (R_n R) eT⟩
  rw [eG]
  exact R_cT (R_cg R eZ) eT
/-- what does not matter may change -/
theorem SM_cg (s : SM_ GG Z XL cap) (hG : ∀ k, k ≠ 1 → GG' k = GG k) (hG1 : gs_ (GG' 1)) (hZ : ∀ i, (i < 16 ∨ (32 ≤ i ∧ i < 176) ∨ (207 ≤ i ∧ i < 213)) → Z' i = Z i) (h1 : ∀ i, i < 110 → Z' 214 i = Z 214 i) (h4 : Z' 217 = Z 217) (h5 : Z' 218 = Z 218) (h7 : Z' 220 = Z 220) (h10 : Z' 223 = Z 223) (h0 : ∀ k, (k = 6 ∨ (9 ≤ k ∧ k ≤ 14) ∨ k = 19 ∨ k = 25) → Z' 213 k = Z 213 k) : SM_ GG' Z' XL cap := by
  obtain ⟨s1, s2, s3, ⟨c, p, s4⟩, s5, s6, s7, s8⟩ := s
  refine ⟨TR_cg s1 (hG 0 (by decide)) (fun i hi => hZ _ (by omega)) h1, fun k hk => ?_, ?_, ⟨c, p, s4.1, s4.2.1, ?_, ?_, ?_, fun i hi => ?_⟩, ?_, ?_, ?_, ?_⟩
  · by_cases e : k = 1
    · rw [e]; exact hG1
    · rw [hG k e]; exact s2 k hk
  · rw [hZ 209 (by decide), h0 14 (by decide), h4]
    refine ⟨s3.1, s3.2.elim .inl (fun q => .inr ⟨q.1, TR_cg q.2 (hG 2 (by decide)) (fun i hi => hZ _ (by omega)) (fun _ _ => rfl)⟩)⟩
  · rw [hZ 209 (by decide)]; exact s4.2.2.1
  · rw [hZ 209 (by decide)]; exact s4.2.2.2.1
  · rw [h0 6 (by decide)]; exact s4.2.2.2.2.1
  · rw [h5]
    have hm := Nat.mod_lt (p + 8 - c + i) (show 0 < 8 by decide)
    exact TR_cg (s4.2.2.2.2.2 i hi) (hG _ (by omega)) (fun i hi => hZ _ (by omega)) (fun _ _ => rfl)
  · rw [h0 9 (by decide), h0 10 (by decide), h0 11 (by decide), h0 12 (by decide)]
    exact s5
  · rw [hZ 209 (by decide), h0 13 (by decide)]
    exact s6
  · rw [hZ 207 (by decide), hZ 208 (by decide), h0 19 (by decide), h7]
    exact s7
  · rw [hZ 211 (by decide), hZ 212 (by decide), h0 25 (by decide), h10]
    exact s8
/-- a refusal is kept by the class -/
theorem x_refused (hW : WD_ A GG Z XL cap K h) (q : Int32 × Int32) (hq : q.1 ≠ nI 0) : ∃ h', F_X5_isRefused h (A 209) (rL_ (some q)) = some (nI 1, h') ∧ WD_ A GG Z (fun a => if a = 11 then kl 0 else if a = 10 then rf_ q.1 q.2 else XL a) cap K h' := by
  obtain ⟨h1, e1, W1⟩ := X_pL (v := rf_ q.1 q.2) (k := 10) hW (.inl rfl)
  obtain ⟨h2, e2, W2⟩ := X_pL (v := kl 0) (k := 11) W1 (.inr rfl)
  refine ⟨h2, ?_, W2⟩
  unfold F_X5_isRefused
  have hne : lg_cmp (rL_ (some q)) (kl 0) ≠ 0 := rf_ne q.2 hq
  rw [if_pos hne, show rL_ (some q) = rf_ q.1 q.2 from rfl, e1, Option.bind_some, e2, Option.bind_some]
  rfl
theorem x_ok : F_X5_isRefused h (A 209) (rL_ none) = some (nI 0, h) := by
  unfold F_X5_isRefused
  rw [if_neg (fun q => q rf_kl)]
  rfl
theorem x_div (p : Nat) (hp : p < 8) : fx_rem (nI p + nI 1) (nI 8) = some (nI ((p + 1) % 8)) := by
  unfold fx_rem
  rw [if_neg (by decide), nI_add, pk_rem (by omega) (by decide) (by decide)]
theorem x_min (c : Nat) (hc : c ≤ 8) : (if nI c + nI 1 < nI 8 then nI c + nI 1 else nI 8) = nI (min 8 (c + 1)) := by
  rw [nI_add]
  by_cases e : c + 1 < 8
  · rw [if_pos (nI_lt e (by decide)), Nat.min_eq_right (by omega)]
  · rw [if_neg (nI_nlt (by omega) (by omega)), Nat.min_eq_left (by omega)]
theorem zu_x {w : Nat → Nat → Int32} {b k : Nat} {v : Int32} (hb : b < 4) : zu_ Z 209 4 (w2_ (xw_ Z) b k v) = w2_ Z (209 + b) k v := by
  funext i
  unfold zu_
  by_cases e : 209 ≤ i ∧ i < 209 + 4
  · rw [if_pos e]
    funext c
    unfold w2_
    by_cases e2 : i - 209 = b ∧ c = k
    · rw [if_pos e2, if_pos (by omega)]
    · rw [if_neg e2, if_neg (by omega)]
      show Z (209 + (i - 209)) c = Z i c
      rw [show 209 + (i - 209) = i from by omega]
  · rw [if_neg e, w2_ne (by omega)]
theorem zu_t {b n : Nat} {w : Nat → Nat → Int32} {i : Nat} (hi : i < n) : zu_ Z b n w (b + i) = w i := zu_in hi
/-- what is now is remembered -/
theorem x_remember (hW : WD_ A GG Z XL cap K h) {T : Nat → Int32} (t : TR_ GG Z 0 T) {p c : Nat} (hp : p < 8) (hc : c ≤ 8) (ep : Z 209 6 = nI p) (ec : Z 209 5 = nI c) (hg : gs_ (GG (3 + p))) : ∃ h' Z', F_X5_remember h (A 209) = some h' ∧ WD_ A GG Z' XL cap K h' ∧ TR_ GG Z' (3 + p) T ∧ Z' 209 6 = nI ((p + 1) % 8) ∧ Z' 209 5 = nI (min 8 (c + 1)) ∧ (∀ i, ¬ (16 * (3 + p) ≤ i ∧ i < 16 * (3 + p) + 16) → i ≠ 209 → Z' i = Z i) ∧ ∀ k, k ≠ 5 → k ≠ 6 → Z' 209 k = Z 209 k := by
  obtain ⟨n, R, I⟩ := t
  have hp11 : 3 + p < 11 := by omega
  obtain ⟨w', e1, R1⟩ := c_copy (g := GG (3 + p)) (w := wt_ Z (3 + p)) (WD_D hW hp11 (show 0 < 11 by decide) (by omega)) R hg.1 hg.2
  rw [(WD_t hW hp11).2] at e1
  have W1 := WD_tp (g' := GG (3 + p)) (w' := w') hW hp11
  have hGG : va_up GG (3 + p) (GG (3 + p)) = GG := by
    funext k
    unfold va_up
    split
    · next q => rw [q]
    · rfl
  rw [hGG] at W1
  have z6 : zu_ Z (16 * (3 + p)) 16 w' 209 = Z 209 := zu_out (by omega)
  obtain ⟨h2, e2, W2⟩ := X_pI (k := 6) (v := nI ((p + 1) % 8)) W1 (by decide) (fun _ => rfl) (fit_int _)
  rw [zu_x (w := w') (by decide)] at W2
  obtain ⟨h3, e3, W3⟩ := X_pI (k := 5) (v := nI (min 8 (c + 1))) W2 (by decide) (fun _ => rfl) (fit_int _)
  rw [zu_x (w := w') (by decide)] at W3
  refine ⟨h3, _, ?_, W3, ⟨n, R_cg R1 (fun i hi => ?_), I⟩, ?_, ?_, fun i hi h9 => ?_, fun k h5 h6 => ?_⟩
  · unfold F_X5_remember
    have er : fx_aR h (A 210) (nI p) = some (A (16 * (3 + p) + 0)) := by rw [X_aE hW hp, show 48 + 16 * p = 16 * (3 + p) + 0 from by omega]
    have eis := (tv_is (g := GG (3 + p)) (w := wt_ Z (3 + p)) (WD_t hW hp11).1)
    rw [(WD_t hW hp11).2] at eis
    rw [X_ear hW, Option.bind_some, X_nxt hW, ep, Option.bind_some, er, Option.bind_some, X_now hW, Option.bind_some, eis, Option.bind_some]
    rw [show F_X3_copyFrom h (A (16 * (3 + p) + 0)) (A 0) = _ from e1, Option.bind_some, X_nxt W1, Option.bind_some, z6, ep, kj_i1, kk_b8, x_div p hp, Option.bind_some, e2, Option.bind_some, X_cnt W2, Option.bind_some, w2_n2 (by omega), z6, ec, x_min c hc, e3, Option.bind_some]
  · show w2_ (w2_ (zu_ Z (16 * (3 + p)) 16 w') 209 6 _) 209 5 _ (16 * (3 + p) + i) = w' i
    rw [w2_ne (by omega), w2_ne (by omega), zu_in hi]
  · rw [w2_n2 (by omega), w2_at]
  · rw [w2_at]
  · rw [w2_ne h9, w2_ne h9, zu_out hi]
  · rw [w2_n2 (by omega), w2_n2 (by omega), z6]
end SI
