/-! the whole world: cells at places, by number -/
/-- orders: twenty cells -/
def fO_ (l : Nat → Nat) (f : Nat → Int32) : List Value := [.ref (l 18), .ref (l 1), .ref (l 2), .int (f 3)]
def fB_ (q : Nat) (f : Nat → Int32) : List Value := [.ref q, .int 0, .int (f 2), .int (f 3)]
def zc_ (l : Nat → Nat) (z : Nat → Nat → Int32) (cap i : Nat) : mm_Ce := match i with
  | 0 => .inr (1, fO_ l (z 0))
  | 1 => .inl (0, 15, .inl (z 1))
  | 2 => .inl (8, 15, .inr (.inr (.inr (.inr (aR_ 15 (fun k => l (k + 3)))))))
  | 18 => .inr (7, fB_ (l 19) (z 18))
  | 19 => .inl (4, cap, .inl (z 19))
  | i => .inl (0, 3, .inl (z i))
/-- the object itself: the object, the earlier treaties, the line and its bytes -/
def fX_ (A : Nat → Nat) (f : Nat → Int32) (XL : Nat → Int64) : List Value := [.ref (A 0), .ref (A 16), .ref (A 32), .int (f 3), .ref (A 210), .int (f 5), .int (f 6), .ref (A 176), .ref (A 189), .int (f 9), .long (XL 10), .long (XL 11), .ref (A 211)]
def xc_ (A : Nat → Nat) (x : Nat → Nat → Int32) (XL : Nat → Int64) (i : Nat) : mm_Ce := match i with
  | 0 => .inr (5, fX_ A (x 0) XL)
  | 1 => .inl (7, 8, .inr (.inr (.inr (.inr (aR_ 8 (fun k => A (48 + 16 * k)))))))
  | 2 => .inr (7, fB_ (A 212) (x 2))
  | _ => .inl (4, 16, .inl (x 3))
def W_ (N : Nat) (A : Nat → Nat) (C : Nat → mm_Ce) (h : mm_S) : Prop := (∀ i, i < N → A i ∈ h.1) ∧ (∀ i j, i < N → j < N → A i = A j → i = j) ∧ ∀ i, i < N → h.2 (A i) = C i
section WW
variable {N : Nat} {A : Nat → Nat} {C C' c c' : Nat → mm_Ce} {h : mm_S} {b n i : Nat}
theorem W_L (hW : W_ N A C h) (hb : b + n ≤ N) : ov_L n (fun j => A (b + j)) h :=
  ⟨fun i hi => hW.1 _ (by omega), fun i j hi hj e => by have := hW.2.1 _ _ (show b + i < N by omega) (show b + j < N by omega) e; omega⟩
theorem W_eq (hW : W_ N A C h) (hb : b + n ≤ N) (hc : ∀ j, j < n → C (b + j) = c j) : ov_ n c (fun j => A (b + j)) h = h :=
  ov_eq (W_L hW hb) (fun i hi => by rw [hW.2.2 _ (by omega), hc i hi])
theorem W_put (hW : W_ N A C h) (hb : b + n ≤ N) (hC : ∀ i, i < N → C' i = if b ≤ i ∧ i < b + n then c' (i - b) else C i) : W_ N A C' (ov_ n c' (fun j => A (b + j)) h) := by
  refine ⟨hW.1, hW.2.1, fun i hi => ?_⟩
  rw [hC i hi]
  by_cases e : b ≤ i ∧ i < b + n
  · rw [if_pos e]
    have e2 := ov_at (c := c') (W_L hW hb) (show i - b < n by omega)
    rw [show b + (i - b) = i from by omega] at e2
    exact e2
  · rw [if_neg e, ov_ne (fun j hj e2 => e (by have := hW.2.1 _ _ (show b + j < N by omega) hi e2; omega)), hW.2.2 i hi]
end WW
/-- all the cells: eleven treaties, ways, orders, the object, the model; then others -/
def Cw_ (A : Nat → Nat) (GG : Nat → Nat → Nat) (Z : Nat → Nat → Int32) (XL : Nat → Int64) (cap : Nat) (K : Nat → mm_Ce) (i : Nat) : mm_Ce :=
  if i < 176 then tc_ (fun j => A (16 * (i / 16) + j)) (GG (i / 16)) (fun j => Z (16 * (i / 16) + j)) (i % 16)
  else if i < 189 then yc_ (fun j => A (176 + j)) (fun j => Z (176 + j)) (i - 176)
  else if i < 209 then zc_ (fun j => A (189 + j)) (fun j => Z (189 + j)) cap (i - 189)
  else if i < 213 then xc_ A (fun j => Z (209 + j)) XL (i - 209)
  else if i < 224 then mc_ (fun j => A (213 + j)) (fun j => Z (213 + j)) (i - 213)
  else K i
/-- a piece of the numbers changed -/
def zu_ (Z : Nat → Nat → Int32) (b n : Nat) (w : Nat → Nat → Int32) : Nat → Nat → Int32 := fun i => if b ≤ i ∧ i < b + n then w (i - b) else Z i
theorem zu_in {Z : Nat → Nat → Int32} {b n : Nat} {w : Nat → Nat → Int32} {j : Nat} (h : j < n) : zu_ Z b n w (b + j) = w j := by
  unfold zu_
  rw [if_pos (by omega), Nat.add_sub_cancel_left]
theorem zu_out {Z : Nat → Nat → Int32} {b n : Nat} {w : Nat → Nat → Int32} {i : Nat} (h : ¬ (b ≤ i ∧ i < b + n)) : zu_ Z b n w i = Z i := if_neg h
abbrev lt_ (A : Nat → Nat) (k : Nat) : Nat → Nat := fun j => A (16 * k + j)
abbrev wt_ (Z : Nat → Nat → Int32) (k : Nat) : Nat → Nat → Int32 := fun j => Z (16 * k + j)
abbrev ly_ (A : Nat → Nat) : Nat → Nat := fun j => A (176 + j)
abbrev lz_ (A : Nat → Nat) : Nat → Nat := fun j => A (189 + j)
abbrev lx_ (A : Nat → Nat) : Nat → Nat := fun j => A (209 + j)
abbrev lm_ (A : Nat → Nat) : Nat → Nat := fun j => A (213 + j)
abbrev yw_ (Z : Nat → Nat → Int32) : Nat → Nat → Int32 := fun j => Z (176 + j)
abbrev zw_ (Z : Nat → Nat → Int32) : Nat → Nat → Int32 := fun j => Z (189 + j)
abbrev xw_ (Z : Nat → Nat → Int32) : Nat → Nat → Int32 := fun j => Z (209 + j)
abbrev mw_ (Z : Nat → Nat → Int32) : Nat → Nat → Int32 := fun j => Z (213 + j)
def WD_ (A : Nat → Nat) (GG : Nat → Nat → Nat) (Z : Nat → Nat → Int32) (XL : Nat → Int64) (cap : Nat) (K : Nat → mm_Ce) (h : mm_S) : Prop := W_ 226 A (Cw_ A GG Z XL cap K) h
theorem xc_c {A : Nat → Nat} {x x' : Nat → Nat → Int32} {XL XL' : Nat → Int64} {j : Nat} (hj : j < 4) (e : x j = x' j) (hX : j = 0 → XL = XL') : xc_ A x XL j = xc_ A x' XL' j := by
  match j, hj with
  | 0, _ =>
    unfold xc_
    rw [e, hX rfl]
    rfl
  | 1, _ => rfl
  | 2, _ =>
    unfold xc_
    rw [e]
    rfl
  | 3, _ =>
    unfold xc_
    rw [e]
    rfl
theorem zc_c {l : Nat → Nat} {z z' : Nat → Nat → Int32} {cap j : Nat} (e : z j = z' j) : zc_ l z cap j = zc_ l z' cap j := by
  unfold zc_
  split <;> simp only [e]
theorem tc_ww {l g : Nat → Nat} {w w' : Nat → Nat → Int32} {i : Nat} (e : w i = w' i) : tc_ l g w i = tc_ l g w' i := tc_w e
section WD
variable {A : Nat → Nat} {GG : Nat → Nat → Nat} {Z Z' : Nat → Nat → Int32} {XL XL' : Nat → Int64} {cap : Nat} {K : Nat → mm_Ce} {h : mm_S} {k i : Nat}
theorem WD_tc (hk : k < 11) {j : Nat} (hj : j < 16) : Cw_ A GG Z XL cap K (16 * k + j) = tc_ (lt_ A k) (GG k) (wt_ Z k) j := by
  unfold Cw_
  rw [if_pos (by omega), show (16 * k + j) / 16 = k from by omega, show (16 * k + j) % 16 = j from by omega]
theorem WD_yc {j : Nat} (hj : j < 13) : Cw_ A GG Z XL cap K (176 + j) = yc_ (ly_ A) (yw_ Z) j := by
  unfold Cw_
  rw [if_neg (by omega), if_pos (by omega), Nat.add_sub_cancel_left]
theorem WD_zc {j : Nat} (hj : j < 20) : Cw_ A GG Z XL cap K (189 + j) = zc_ (lz_ A) (zw_ Z) cap j := by
  unfold Cw_
  rw [if_neg (by omega), if_neg (by omega), if_pos (by omega), Nat.add_sub_cancel_left]
theorem WD_xc {j : Nat} (hj : j < 4) : Cw_ A GG Z XL cap K (209 + j) = xc_ A (xw_ Z) XL j := by
  unfold Cw_
  rw [if_neg (by omega), if_neg (by omega), if_neg (by omega), if_pos (by omega), Nat.add_sub_cancel_left]
theorem WD_mc {j : Nat} (hj : j < 11) : Cw_ A GG Z XL cap K (213 + j) = mc_ (lm_ A) (mw_ Z) j := by
  unfold Cw_
  rw [if_neg (by omega), if_neg (by omega), if_neg (by omega), if_neg (by omega), if_pos (by omega), Nat.add_sub_cancel_left]
/-- the cells where numbers changed in one piece alone -/
theorem Cw_z {b n kk : Nat} (hZ : ∀ i, ¬ (b ≤ i ∧ i < b + n) → Z' i = Z i) (hi : ¬ (b ≤ i ∧ i < b + n)) {GG' : Nat → Nat → Nat} (hG : ∀ k, ¬ (b ≤ 16 * k + 3 ∧ 16 * k + 3 < b + n) → GG' k = GG k) (hb : (b = 16 * kk ∧ n = 16) ∨ 176 ≤ b) (hX : (b ≤ 209 ∧ 209 < b + n) ∨ XL' = XL) : Cw_ A GG' Z' XL' cap K i = Cw_ A GG Z XL cap K i := by
  unfold Cw_
  by_cases h1 : i < 176
  · rw [if_pos h1, if_pos h1, hG (i / 16) (by omega)]
    refine tc_ww ?_
    show Z' (16 * (i / 16) + i % 16) = Z (16 * (i / 16) + i % 16)
    exact hZ _ (by omega)
  · rw [if_neg h1, if_neg h1]
    by_cases h2 : i < 189
    · rw [if_pos h2, if_pos h2]
      refine yc_w ?_
      show Z' (176 + (i - 176)) = Z (176 + (i - 176))
      exact hZ _ (by omega)
    · rw [if_neg h2, if_neg h2]
      by_cases h3 : i < 209
      · rw [if_pos h3, if_pos h3]
        exact zc_c (show Z' (189 + (i - 189)) = Z (189 + (i - 189)) from hZ _ (by omega))
      · rw [if_neg h3, if_neg h3]
        by_cases h4 : i < 213
        · rw [if_pos h4, if_pos h4]
          exact xc_c (by omega) (show Z' (209 + (i - 209)) = Z (209 + (i - 209)) from hZ _ (by omega)) (fun q => hX.elim (fun q2 => absurd q2 (by omega)) (fun q2 => q2))
        · rw [if_neg h4, if_neg h4]
          by_cases h5 : i < 224
          · rw [if_pos h5, if_pos h5]
            refine mc_w ?_
            show Z' (213 + (i - 213)) = Z (213 + (i - 213))
            exact hZ _ (by omega)
          · rw [if_neg h5, if_neg h5]
theorem WD_t (hW : WD_ A GG Z XL cap K h) (hk : k < 11) : ov_L 16 (lt_ A k) h ∧ tv_ (lt_ A k) (GG k) (wt_ Z k) h = h :=
  ⟨W_L hW (by omega), W_eq hW (by omega) (fun j hj => WD_tc hk hj)⟩
theorem WD_y (hW : WD_ A GG Z XL cap K h) : ov_L 13 (ly_ A) h ∧ yv_ (ly_ A) (yw_ Z) h = h :=
  ⟨W_L hW (by omega), W_eq hW (by omega) (fun j hj => WD_yc hj)⟩
theorem WD_m (hW : WD_ A GG Z XL cap K h) : ov_L 11 (lm_ A) h ∧ mv_ (lm_ A) (mw_ Z) h = h :=
  ⟨W_L hW (by omega), W_eq hW (by omega) (fun j hj => WD_mc hj)⟩
theorem WD_tp (hW : WD_ A GG Z XL cap K h) (hk : k < 11) {g' : Nat → Nat} {w' : Nat → Nat → Int32} : WD_ A (va_up GG k g') (zu_ Z (16 * k) 16 w') XL cap K (tv_ (lt_ A k) g' w' h) := by
  refine W_put hW (by omega) (fun i hi => ?_)
  by_cases e : 16 * k ≤ i ∧ i < 16 * k + 16
  · rw [if_pos e]
    obtain ⟨j, hj, rfl⟩ : ∃ j, j < 16 ∧ i = 16 * k + j := ⟨i - 16 * k, by omega, by omega⟩
    rw [WD_tc hk hj, va_up_self, Nat.add_sub_cancel_left]
    exact tc_ww (zu_in hj)
  · rw [if_neg e]
    exact Cw_z (kk := k) (fun i hi => zu_out hi) e (fun p hp => va_up_ne _ _ (by omega)) (.inl ⟨rfl, rfl⟩) (.inr rfl)
theorem WD_yp (hW : WD_ A GG Z XL cap K h) {y' : Nat → Nat → Int32} : WD_ A GG (zu_ Z 176 13 y') XL cap K (yv_ (ly_ A) y' h) := by
  refine W_put hW (by omega) (fun i hi => ?_)
  by_cases e : 176 ≤ i ∧ i < 176 + 13
  · rw [if_pos e]
    obtain ⟨j, hj, rfl⟩ : ∃ j, j < 13 ∧ i = 176 + j := ⟨i - 176, by omega, by omega⟩
    rw [WD_yc hj, Nat.add_sub_cancel_left]
    exact yc_w (zu_in hj)
  · rw [if_neg e]
    exact Cw_z (kk := 0) (fun i hi => zu_out hi) e (fun p hp => rfl) (.inr (by decide)) (.inr rfl)
theorem WD_mp (hW : WD_ A GG Z XL cap K h) {M' : Nat → Nat → Int32} : WD_ A GG (zu_ Z 213 11 M') XL cap K (mv_ (lm_ A) M' h) := by
  refine W_put hW (by omega) (fun i hi => ?_)
  by_cases e : 213 ≤ i ∧ i < 213 + 11
  · rw [if_pos e]
    obtain ⟨j, hj, rfl⟩ : ∃ j, j < 11 ∧ i = 213 + j := ⟨i - 213, by omega, by omega⟩
    rw [WD_mc hj, Nat.add_sub_cancel_left]
    exact mc_w (zu_in hj)
  · rw [if_neg e]
    exact Cw_z (kk := 0) (fun i hi => zu_out hi) e (fun p hp => rfl) (.inr (by decide)) (.inr rfl)
theorem WD_Dy (hW : WD_ A GG Z XL cap K h) (hk : k < 11) : Dy_ (ly_ A) (lt_ A k) (GG k) (wt_ Z k) h := by
  refine ⟨(WD_y hW).1, (WD_t hW hk).1, fun i j hi hj e => ?_, fun i hi => ?_⟩
  · have := hW.2.1 (176 + i) (16 * k + j) (by omega) (by omega) e
    omega
  · have := hW.2.2 (16 * k + i) (by omega)
    rw [WD_tc hk hi] at this
    exact this
theorem WD_D (hW : WD_ A GG Z XL cap K h) {k2 : Nat} (hk : k < 11) (hk2 : k2 < 11) (hne : k ≠ k2) : D_ (lt_ A k) (lt_ A k2) (GG k2) (wt_ Z k2) h := by
  refine ⟨(WD_t hW hk).1, (WD_t hW hk2).1, fun i j hi hj e => ?_, fun i hi => ?_⟩
  · have := hW.2.1 (16 * k + i) (16 * k2 + j) (by omega) (by omega) e
    omega
  · have := hW.2.2 (16 * k2 + i) (by omega)
    rw [WD_tc hk2 hi] at this
    exact this
/-! reading the object -/
theorem WD_x (hW : WD_ A GG Z XL cap K h) : A 209 ∈ h.1 ∧ h.2 (A 209) = .inr (5, fX_ A (Z 209) XL) :=
  ⟨hW.1 209 (by decide), by rw [hW.2.2 209 (by decide)]; exact WD_xc (j := 0) (by decide)⟩
theorem WD_xo (hW : WD_ A GG Z XL cap K h) : fx_obj h (A 209) 5 = some (fX_ A (Z 209) XL) := by
  unfold fx_obj
  rw [if_pos (WD_x hW).1, (WD_x hW).2]
  exact if_pos rfl
theorem WD_xis (hW : WD_ A GG Z XL cap K h) : fx_is h (A 209) 5 = some () := by
  unfold fx_is
  rw [WD_xo hW]
  rfl
theorem WD_xR (hW : WD_ A GG Z XL cap K h) {k q : Nat} (e : (fX_ A (Z 209) XL)[k]? = some (.ref q)) : fx_gR h (A 209) 5 k = some q := by
  unfold fx_gR
  rw [WD_xo hW, Option.bind_some, e]
theorem WD_xI (hW : WD_ A GG Z XL cap K h) {k : Nat} {x : Int32} (e : (fX_ A (Z 209) XL)[k]? = some (.int x)) : fx_gI h (A 209) 5 k = some x := by
  unfold fx_gI
  rw [WD_xo hW, Option.bind_some, e]
theorem WD_xL (hW : WD_ A GG Z XL cap K h) {k : Nat} {x : Int64} (e : (fX_ A (Z 209) XL)[k]? = some (.long x)) : fx_gL h (A 209) 5 k = some x := by
  unfold fx_gL
  rw [WD_xo hW, Option.bind_some, e]
theorem X_now (hW : WD_ A GG Z XL cap K h) : fx_gR h (A 209) 5 0 = some (A 0) := WD_xR hW rfl
theorem X_draft (hW : WD_ A GG Z XL cap K h) : fx_gR h (A 209) 5 1 = some (A 16) := WD_xR hW rfl
theorem X_saved (hW : WD_ A GG Z XL cap K h) : fx_gR h (A 209) 5 2 = some (A 32) := WD_xR hW rfl
theorem X_iss (hW : WD_ A GG Z XL cap K h) : fx_gI h (A 209) 5 3 = some (Z 209 3) := WD_xI hW rfl
theorem X_ear (hW : WD_ A GG Z XL cap K h) : fx_gR h (A 209) 5 4 = some (A 210) := WD_xR hW rfl
theorem X_cnt (hW : WD_ A GG Z XL cap K h) : fx_gI h (A 209) 5 5 = some (Z 209 5) := WD_xI hW rfl
theorem X_nxt (hW : WD_ A GG Z XL cap K h) : fx_gI h (A 209) 5 6 = some (Z 209 6) := WD_xI hW rfl
theorem X_way (hW : WD_ A GG Z XL cap K h) : fx_gR h (A 209) 5 7 = some (A 176) := WD_xR hW rfl
theorem X_ord (hW : WD_ A GG Z XL cap K h) : fx_gR h (A 209) 5 8 = some (A 189) := WD_xR hW rfl
theorem X_flt (hW : WD_ A GG Z XL cap K h) : fx_gI h (A 209) 5 9 = some (Z 209 9) := WD_xI hW rfl
theorem X_why (hW : WD_ A GG Z XL cap K h) : fx_gL h (A 209) 5 10 = some (XL 10) := WD_xL hW rfl
theorem X_cau (hW : WD_ A GG Z XL cap K h) : fx_gL h (A 209) 5 11 = some (XL 11) := WD_xL hW rfl
theorem X_lin (hW : WD_ A GG Z XL cap K h) : fx_gR h (A 209) 5 12 = some (A 211) := WD_xR hW rfl
theorem WD_xp (hW : WD_ A GG Z XL cap K h) {x' : Nat → Nat → Int32} {XL' : Nat → Int64} : WD_ A GG (zu_ Z 209 4 x') XL' cap K (ov_ 4 (xc_ A x' XL') (lx_ A) h) := by
  refine W_put hW (by omega) (fun i hi => ?_)
  by_cases e : 209 ≤ i ∧ i < 209 + 4
  · rw [if_pos e]
    obtain ⟨j, hj, rfl⟩ : ∃ j, j < 4 ∧ i = 209 + j := ⟨i - 209, by omega, by omega⟩
    rw [WD_xc hj, Nat.add_sub_cancel_left]
    exact xc_c hj (zu_in hj) (fun _ => rfl)
  · rw [if_neg e]
    exact Cw_z (kk := 0) (fun i hi => zu_out hi) e (fun p hp => rfl) (.inr (by decide)) (.inl (by decide))
theorem WD_xv (hW : WD_ A GG Z XL cap K h) : ov_L 4 (lx_ A) h ∧ ov_ 4 (xc_ A (xw_ Z) XL) (lx_ A) h = h :=
  ⟨W_L hW (by omega), W_eq hW (by omega) (fun j hj => WD_xc hj)⟩
/-- a number of the object -/
theorem X_pI (hW : WD_ A GG Z XL cap K h) {v : Int32} (hk : k < 13) (hs : ∀ f : Nat → Int32, (fX_ A f XL).set k (.int v) = fX_ A (upd f k v) XL) (hf : narrow (mm_fty 5 k) (.int v) = .int v ∧ fits (mm_fty 5 k) (.int v) = true) : ∃ h', fx_pV h (A 209) 5 k (.int v) = some h' ∧ WD_ A GG (zu_ Z 209 4 (w2_ (xw_ Z) 0 k v)) XL cap K h' := by
  obtain ⟨hl, e⟩ := WD_xv hW
  refine ⟨_, ?_, WD_xp (x' := w2_ (xw_ Z) 0 k v) (XL' := XL) hW⟩
  have e2 := ox_pV (c := xc_ A (xw_ Z) XL) (k := k) (v := .int v) hl (show 0 < 4 by decide) (show xc_ A (xw_ Z) XL 0 = .inr (5, fX_ A (xw_ Z 0) XL) from rfl) hk hf
  rw [e] at e2
  show fx_pV h (lx_ A 0) 5 k (.int v) = _
  rw [e2, hs]
  refine congrArg some (ov_ext fun a ha => ?_)
  by_cases ea : a = 0
  · subst ea
    rw [va_up_self]
    rw [← w2_upd]
    rfl
  · rw [va_up_ne _ _ ea]
    exact xc_c ha (w2_ne ea).symm (fun _ => rfl)
theorem X_pL (hW : WD_ A GG Z XL cap K h) {v : Int64} (hk : k = 10 ∨ k = 11) : ∃ h', fx_pV h (A 209) 5 k (.long v) = some h' ∧ WD_ A GG Z (fun a => if a = k then v else XL a) cap K h' := by
  obtain ⟨hl, e⟩ := WD_xv hW
  have hWp := WD_xp (x' := xw_ Z) (XL' := fun a => if a = k then v else XL a) hW
  have hz : zu_ Z 209 4 (xw_ Z) = Z := by
    funext i
    unfold zu_
    split
    · next q => show Z (209 + (i - 209)) = Z i; rw [show 209 + (i - 209) = i from by omega]
    · rfl
  rw [hz] at hWp
  refine ⟨_, ?_, hWp⟩
  have hf : narrow (mm_fty 5 k) (.long v) = .long v ∧ fits (mm_fty 5 k) (.long v) = true := by
    rcases hk with rfl | rfl <;> exact ⟨rfl, rfl⟩
  have hs : ∀ f : Nat → Int32, (fX_ A f XL).set k (.long v) = fX_ A f (fun a => if a = k then v else XL a) := by
    rcases hk with rfl | rfl <;> (intro f; rfl)
  have e2 := ox_pV (c := xc_ A (xw_ Z) XL) (k := k) (v := .long v) hl (show 0 < 4 by decide) (show xc_ A (xw_ Z) XL 0 = .inr (5, fX_ A (xw_ Z 0) XL) from rfl) (by rcases hk with rfl | rfl <;> exact Nat.le_of_ble_eq_true rfl) hf
  rw [e] at e2
  show fx_pV h (lx_ A 0) 5 k (.long v) = _
  rw [e2, hs]
  refine congrArg some (ov_ext fun a ha => ?_)
  by_cases ea : a = 0
  · subst ea
    rw [va_up_self]
    rfl
  · rw [va_up_ne _ _ ea]
    exact xc_c ha rfl (fun q => absurd q ea)
theorem X_aE (hW : WD_ A GG Z XL cap K h) {j : Nat} (hj : j < 8) : fx_aR h (A 210) (nI j) = some (A (48 + 16 * j)) := by
  obtain ⟨hl, e⟩ := WD_xv hW
  have e2 := ox_aR (c := xc_ A (xw_ Z) XL) (j := j) (v := A (48 + 16 * j)) hl (show 1 < 4 by decide) rfl (by decide) hj (by decide) (if_pos hj)
  rw [e] at e2
  exact e2
end WD
