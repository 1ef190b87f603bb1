/-! a text being built: two cells -/
def tc2_ (l : Nat → Nat) (z : Nat → Nat → Int32) (cap i : Nat) : mm_Ce := match i with
  | 0 => .inr (7, fB_ (l 1) (z 0))
  | _ => .inl (4, cap, .inl (z 1))
def tv2_ (l : Nat → Nat) (z : Nat → Nat → Int32) (cap : Nat) (h : mm_S) : mm_S := ov_ 2 (tc2_ l z cap) l h
/-- the characters of a text -/
def sL_ (c a : Nat → Int32) (i : Nat) (s : List Nat) : Prop := c i = nI s.length ∧ ∀ k, k < s.length → a k = nI (s.getD k 0)
def dg_ (x : Nat) : List Nat := if x < 10 then [x + 48] else [x / 10 + 48, x % 10 + 48]
theorem dg_len {x : Nat} (hx : x < 100) : (dg_ x).length ≤ 2 := by
  unfold dg_
  split <;> simp
theorem tb_cap : ∀ cap : Nat, cap < 71 → ∀ n : Nat, n < 72 → (nI n - (nI cap >>> ((0 : Int32) &&& 31)) ≤ 0 ↔ n ≤ cap) := by decide +kernel
theorem tb_shr : ∀ cap : Nat, cap < 71 → nI cap >>> ((0 : Int32) &&& 31) = nI cap := by decide +kernel
theorem tb_byt : ∀ v : Nat, v < 127 → vp_nar .byte (nI v) = nI v ∧ (nI v).toInt8.toInt32 = nI v ∧ ¬ ks 255 < nI v ∧ (((nI v) &&& ks 255).toUInt32 % 65536).toInt32 = nI v ∧ narrow .char (.int (nI v)) = .int (nI v) := by decide +kernel
theorem tb_num : ∀ x : Nat, x < 100 → nI x - nI x / 10 * 10 + 48 = nI (x % 10 + 48) ∧ nI x / 10 + 48 = nI (x / 10 + 48) ∧ nI x + 48 = nI (x + 48) ∧ ((0 : Int32) ≤ nI x) ∧ (nI x < 10 ↔ x < 10) ∧ ((10 : Int32) ≤ nI x ↔ 10 ≤ x) ∧ nI x < 100 ∧ ¬ nI x < 0 ∧ (- nI x ≤ kb (-10) ↔ 10 ≤ x) ∧ ¬ (- nI x ≤ kb 10 * kb (-10)) := by decide +kernel
theorem sL_push {c a c' a' : Nat → Int32} {i : Nat} {s : List Nat} {v : Nat} (h : sL_ c a i s) (hc : c' i = nI (s.length + 1)) (ha : a' = upd a s.length (nI v)) : sL_ c' a' i (s ++ [v]) := by
  refine ⟨by rw [hc, List.length_append]; rfl, fun k hk => ?_⟩
  rw [List.length_append, List.length_singleton] at hk
  rw [ha]
  unfold upd
  by_cases e : k = s.length
  · subst e
    rw [if_pos rfl]
    simp
  · rw [if_neg e, h.2 k (by omega)]
    simp [List.getElem?_append_left (show k < s.length by omega)]
section SB
variable {l : Nat → Nat} {z : Nat → Nat → Int32} {cap n j : Nat} {h : mm_S} {S : Nat → Nat} {s : List Nat} {v : Int32}
theorem tv2_is (hl : ov_L 2 l h) : fx_is (tv2_ l z cap h) (l 0) 7 = some () := ox_is hl (by decide) rfl
theorem tv2_r (hl : ov_L 2 l h) : fx_gR (tv2_ l z cap h) (l 0) 7 0 = some (l 1) := ox_gR hl (by decide) rfl rfl
theorem tv2_c (hl : ov_L 2 l h) : fx_gI (tv2_ l z cap h) (l 0) 7 1 = some 0 := ox_gI hl (by decide) rfl rfl
theorem tv2_n (hl : ov_L 2 l h) : fx_gI (tv2_ l z cap h) (l 0) 7 3 = some (z 0 3) := ox_gI hl (by decide) rfl rfl
theorem tv2_len (hl : ov_L 2 l h) : fx_len (tv2_ l z cap h) (l 1) = some (nI cap) := ox_len (c := tc2_ l z cap) (i := 1) hl (by decide) (show tc2_ l z cap 1 = .inl (4, cap, .inl (z 1)) from rfl) (by decide)
theorem tv2_up {i : Nat} {z' : Nat → Nat → Int32} {x : mm_Ce} (hi : i < 2) (hx : x = tc2_ l z' cap i) (hw : ∀ a, a ≠ i → z a = z' a) : ov_ 2 (va_up (tc2_ l z cap) i x) l h = tv2_ l z' cap h := by
  refine ov_ext fun a ha => ?_
  by_cases e : a = i
  · subst e
    rw [va_up_self, hx]
  · rw [va_up_ne _ _ e]
    match a, ha with
    | 0, _ =>
      show (.inr (7, fB_ (l 1) (z 0)) : mm_Ce) = .inr (7, fB_ (l 1) (z' 0))
      rw [hw 0 e]
    | 1, _ =>
      show (.inl (4, cap, .inl (z 1)) : mm_Ce) = .inl (4, cap, .inl (z' 1))
      rw [hw 1 e]
theorem tv2_pn (hl : ov_L 2 l h) : fx_pV (tv2_ l z cap h) (l 0) 7 3 (.int v) = some (tv2_ l (w2_ z 0 3 v) cap h) := by
  unfold tv2_
  rw [ox_pV (k := 3) (v := .int v) hl (show 0 < 2 by decide) (show tc2_ l z cap 0 = .inr (7, fB_ (l 1) (z 0)) from rfl) (show 3 < 4 by decide) (fit_int v)]
  exact congrArg some (tv2_up (by decide) (by rw [tc2_, w2_upd]; rfl) (fun a ha => (w2_ne ha).symm))
theorem tv2_p2 (hl : ov_L 2 l h) : fx_pV (tv2_ l z cap h) (l 0) 7 2 (.int (nI 1)) = some (tv2_ l (w2_ z 0 2 (nI 1)) cap h) := by
  unfold tv2_
  rw [ox_pV (k := 2) (v := .int (nI 1)) hl (show 0 < 2 by decide) (show tc2_ l z cap 0 = .inr (7, fB_ (l 1) (z 0)) from rfl) (show 2 < 4 by decide) nI1_fit]
  exact congrArg some (tv2_up (by decide) (by rw [tc2_, w2_upd]; rfl) (fun a ha => (w2_ne ha).symm))
theorem tv2_aB (hl : ov_L 2 l h) (hj : j < cap) (hc : cap < 71) : fx_aB (tv2_ l z cap h) (l 1) (nI j) = some (z 1 j) := by
  unfold fx_aB tv2_
  rw [ox_arI hl (show 1 < 2 by decide) (show tc2_ l z cap 1 = .inl (4, cap, .inl (z 1)) from rfl) (by decide), Option.bind_some]
  dsimp only
  rw [if_pos (fx_in_nI hj (by omega)), nI_clamp (by omega)]
theorem tv2_sB (hl : ov_L 2 l h) (hj : j < cap) (hc : cap < 71) {v : Nat} (hv : v < 127) : fx_sB (tv2_ l z cap h) (l 1) (nI j) (nI v) = some (tv2_ l (w2_ z 1 j (nI v)) cap h) := by
  unfold fx_sB tv2_
  rw [ox_arI hl (show 1 < 2 by decide) (show tc2_ l z cap 1 = .inl (4, cap, .inl (z 1)) from rfl) (by decide), Option.bind_some]
  dsimp only
  rw [if_pos (fx_in_nI hj (by omega)), nI_clamp (by omega), if_neg (by decide), (tb_byt v hv).1, ov_put hl (by decide)]
  exact congrArg some (tv2_up (by decide) (by show _ = (.inl (4, cap, .inl (w2_ z 1 j (nI v) 1)) : mm_Ce); rw [w2_upd]) (fun a ha => (w2_ne ha).symm))
theorem tv2_lat (hl : ov_L 2 l h) : F_J5_isLatin1_aae02 S (tv2_ l z cap h) (l 0) = some (ki 1) := by
  unfold F_J5_isLatin1_aae02 tv2_
  rw [ox_obj hl (by decide) (show tc2_ l z cap 0 = .inr (7, fB_ (l 1) (z 0)) from rfl), Option.bind_some]
  rfl
theorem tv2_ens (hl : ov_L 2 l h) (hc : cap < 71) (hn : n ≤ cap) : F_J5_ensureCapacityInternal_d00df (tv2_ l z cap h) (l 0) (nI n) = some (tv2_ l z cap h) := by
  unfold F_J5_ensureCapacityInternal_d00df
  rw [tv2_r hl, Option.bind_some, tv2_len hl, Option.bind_some, tv2_c hl, Option.bind_some, if_pos ((tb_cap cap hc n (by omega)).mpr hn)]
theorem tb_len (hl : ov_L 2 l h) : F_J4_length_8abf5 (tv2_ l z cap h) (l 0) = some (z 0 3) := by
  unfold F_J4_length_8abf5 F_J5_length_8abf5
  simp only [tv2_is hl, tv2_n hl, Option.bind_some]
theorem tb_set (hl : ov_L 2 l h) (hc : cap < 71) (hn : n ≤ cap) (e : z 0 3 = nI n) : ∃ z', F_J4_setLength_d00df S (tv2_ l z cap h) (l 0) (ki 0) = some (tv2_ l z' cap h) ∧ sL_ (z' 0) (z' 1) 3 [] := by
  have ee : F_J5_ensureCapacityInternal_d00df (tv2_ l z cap h) (l 0) (ki 0) = some (tv2_ l z cap h) := tv2_ens hl hc (show 0 ≤ cap by omega)
  unfold F_J4_setLength_d00df F_J5_setLength_d00df
  rw [tv2_is hl, Option.bind_some, if_pos (show (0 : Int32) ≤ ki 0 by decide), Option.bind_some, ee, Option.bind_some, tv2_n hl, Option.bind_some, e, if_pos (show ki 0 ≤ nI n from nI_le (Nat.zero_le n) (by omega)), Option.bind_some]
  by_cases h0 : n = 0
  · subst h0
    rw [if_pos (show nI 0 ≤ ki 0 by decide), tv2_pn hl]
    exact ⟨_, rfl, w2_at, fun k hk => absurd hk (by simp)⟩
  · rw [if_neg (show ¬ nI n ≤ ki 0 from nI_ge (show 0 < n by omega) (by omega)), kj_i1, tv2_p2 hl, Option.bind_some, tv2_pn hl]
    exact ⟨_, rfl, w2_at, fun k hk => absurd hk (by simp)⟩
/-- a character more, where there is room -/
theorem tb_chr (hl : ov_L 2 l h) (hc : cap < 71) (hs : sL_ (z 0) (z 1) 3 s) (hn : s.length < cap) {v : Nat} (hv : v < 127) : ∃ z', F_J4_append_cf468 S (tv2_ l z cap h) (l 0) (nI v) = some (l 0, tv2_ l z' cap h) ∧ sL_ (z' 0) (z' 1) 3 (s ++ [v]) := by
  refine ⟨w2_ (w2_ z 0 3 (nI (s.length + 1))) 1 s.length (nI v), ?_, sL_push hs ?_ ?_⟩
  · unfold F_J4_append_cf468 F_J5_append_3fe6f F_J1_canEncode_fc78d
    rw [tv2_is hl, Option.bind_some, tv2_n hl, Option.bind_some, Option.bind_some, hs.1, nI_s, tv2_ens hl hc (by omega), Option.bind_some, tv2_is hl, Option.bind_some, tv2_lat hl, Option.bind_some, if_neg (by decide), if_neg (tb_byt v hv).2.2.1, Option.bind_some, if_neg (by decide), tv2_r hl, Option.bind_some, tv2_n hl, Option.bind_some, hs.1, nI_s, tv2_pn hl, Option.bind_some, (tb_byt v hv).2.1, tv2_sB hl hn hc hv, Option.bind_some, Option.bind_some]
  · rw [w2_ne (by decide), w2_at]
  · rw [w2_upd, w2_ne (by decide)]
theorem tb_sz (h : mm_S) {x : Nat} (hx : x < 100) : F_J6_stringSize_0f7a4 h (nI x) = some (nI (dg_ x).length) := by
  obtain ⟨-, -, -, -, -, -, -, h0, h10, h100⟩ := tb_num x hx
  unfold F_J6_stringSize_0f7a4 F_J6_stringSize_0f7a4_B11 dg_
  rw [if_neg h0, show (1000 : Nat) = 998 + 1 + 1 from rfl, F_J6_stringSize_0f7a4_L16, if_neg (by decide)]
  by_cases q : x < 10
  · rw [if_neg (fun y => absurd (h10.mp y) (by omega)), if_pos q]
    rfl
  · rw [if_pos (h10.mpr (by omega)), if_neg q, F_J6_stringSize_0f7a4_L16, if_neg (by decide), if_neg h100]
    rfl
theorem tb_gc (hl : ov_L 2 l h) (hc : cap < 71) {x : Nat} (hx : x < 100) (hn : n + (dg_ x).length ≤ cap) : F_J6_getChars_ba4f3 S (tv2_ l z cap h) (nI x) (nI (n + (dg_ x).length)) (l 1) = some (nI n, tv2_ l (if x < 10 then w2_ z 1 n (nI (x + 48)) else w2_ (w2_ z 1 (n + 1) (nI (x % 10 + 48))) 1 n (nI (x / 10 + 48))) cap h) := by
  obtain ⟨e1, e2, e3, h0, h10, h10', h100, -⟩ := tb_num x hx
  unfold F_J6_getChars_ba4f3
  unfold dg_ at hn ⊢
  by_cases q : x < 10
  · rw [if_pos q] at hn ⊢
    rw [if_pos ⟨h0, h10.mpr q⟩, if_pos q, show (n + [x + 48].length) = n + 1 from rfl, nI_pred, e3, tv2_sB hl (Nat.lt_of_succ_le (by simpa using hn)) hc (by omega), Option.bind_some]
  · rw [if_neg q] at hn ⊢
    rw [if_neg (fun y => q (h10.mp y.2)), if_pos ⟨h10'.mpr (by omega), h100⟩, if_neg q, show (n + [x / 10 + 48, x % 10 + 48].length) = (n + 1) + 1 from rfl, nI_pred, nI_pred, e1, e2]
    have hn2 : n + 2 ≤ cap := hn
    rw [tv2_sB hl (by omega) hc (by omega), Option.bind_some, tv2_sB hl (by omega) hc (by omega), Option.bind_some]
/-- a number more, where there is room -/
theorem tb_int (hl : ov_L 2 l h) (hc : cap < 71) (hs : sL_ (z 0) (z 1) 3 s) {x : Nat} (hx : x < 100) (hn : s.length + (dg_ x).length ≤ cap) : ∃ z', F_J4_append_bf812 S (tv2_ l z cap h) (l 0) (nI x) = some (l 0, tv2_ l z' cap h) ∧ sL_ (z' 0) (z' 1) 3 (s ++ dg_ x) := by
  refine ⟨w2_ (if x < 10 then w2_ z 1 s.length (nI (x + 48)) else w2_ (w2_ z 1 (s.length + 1) (nI (x % 10 + 48))) 1 s.length (nI (x / 10 + 48))) 0 3 (nI (s.length + (dg_ x).length)), ?_, ?_⟩
  · unfold F_J4_append_bf812 F_J5_append_c97b9
    rw [tv2_is hl, Option.bind_some, tv2_n hl, Option.bind_some, tb_sz _ hx, Option.bind_some, Option.bind_some, hs.1, nI_add, tv2_ens hl hc hn, Option.bind_some, tv2_is hl, Option.bind_some, tv2_lat hl, Option.bind_some, if_neg (by decide), tv2_r hl, Option.bind_some, tb_gc hl hc hx hn, Option.bind_some]
    dsimp only
    rw [tv2_pn hl, Option.bind_some, Option.bind_some]
  · unfold dg_
    by_cases q : x < 10
    · rw [if_pos q, if_pos q]
      refine sL_push hs ?_ ?_
      · rw [w2_at]
        rfl
      · rw [w2_ne (by decide), w2_upd]
    · rw [if_neg q, if_neg q, show s ++ [x / 10 + 48, x % 10 + 48] = (s ++ [x / 10 + 48]) ++ [x % 10 + 48] from by simp]
      have h1 : sL_ (upd (z 0) 3 (nI (s.length + 1))) (upd (z 1) s.length (nI (x / 10 + 48))) 3 (s ++ [x / 10 + 48]) := sL_push hs (by unfold upd; rw [if_pos rfl]) rfl
      refine sL_push h1 ?_ ?_
      · rw [w2_at, List.length_append]
        rfl
      · rw [w2_ne (by decide), w2_upd, w2_upd, List.length_append]
        funext k
        show upd (upd (z 1) (s.length + 1) _) s.length _ k = upd (upd (z 1) s.length _) (s.length + 1) _ k
        unfold upd
        by_cases a : k = s.length
        · rw [if_pos a, if_neg (by omega), if_pos a]
        · rw [if_neg a]
          by_cases b : k = s.length + 1
          · rw [if_pos b, if_pos b]
          · rw [if_neg b, if_neg b, if_neg a]
theorem tb_at (hl : ov_L 2 l h) (hc : cap < 71) (e : z 0 3 = nI n) (hn : n ≤ cap) (hj : j < n) {v : Nat} (hv : v < 127) (ev : z 1 j = nI v) : F_J4_charAt_5068e S (tv2_ l z cap h) (l 0) (nI j) = some (nI v) := by
  have hb := tb_byt v hv
  have hck : F_J0_checkIndex_df160 S (tv2_ l z cap h) (nI j) (if nI cap < nI n then nI cap else nI n) = some () := by
    unfold F_J0_checkIndex_df160
    rw [if_neg (nI_nlt hn (by omega)), if_pos ⟨nI_pos (by omega), nI_lt hj (by omega)⟩]
  have hnar : fx_nar .char (nI v) = some (nI v) := by
    unfold fx_nar
    rw [if_pos hb.2.2.2.2]
  unfold F_J4_charAt_5068e F_J5_charAt_5068e
  rw [tv2_is hl, Option.bind_some, tv2_c hl, Option.bind_some, tv2_r hl, Option.bind_some, tv2_n hl, Option.bind_some, tv2_len hl, Option.bind_some, tb_shr cap hc, e, hck, Option.bind_some, if_neg (fun q => q rfl), tv2_aB hl (by omega) hc, Option.bind_some, ev, hb.2.2.2.1, hnar, Option.bind_some, Option.bind_some, hnar, Option.bind_some]
end SB
/-! the line of the reference -/
section ML
variable {l : Nat → Nat} {M : Nat → Nat → Int32} {h : mm_S} {s : List Nat}
theorem ml_chr (hl : ov_L 11 l h) (hs : sL_ (M 0) (M 10) 25 s) (hn : s.length < 40) {v : Nat} : ∃ M', F_X6_writes (mv_ l M h) (l 0) (nI v) = some (mv_ l M' h) ∧ sL_ (M' 0) (M' 10) 25 (s ++ [v]) ∧ (∀ a, a ≠ 0 → a ≠ 10 → M' a = M a) ∧ ∀ k, k ≠ 25 → M' 0 k = M 0 k := by
  refine ⟨w2_ (w2_ M 10 s.length (nI v)) 0 25 (nI (s.length + 1)), ?_, sL_push hs w2_at ?_, fun a h0 h10 => ?_, fun k hk => ?_⟩
  · unfold F_X6_writes
    rw [mr_24 hl, Option.bind_some, mg_25 hl, Option.bind_some, hs.1, ms_10 hl hn, Option.bind_some, mg_25 hl, Option.bind_some, w2_ne (by decide), hs.1, nI_s, mp_25 hl, Option.bind_some]
  · rw [w2_ne (by decide), w2_upd]
  · rw [w2_ne h0, w2_ne h10]
  · rw [w2_n2 (by omega), w2_ne (by decide)]
end ML
