/-! the line: class and reference in step -/
theorem tn_dv : ∀ x : Nat, x < 100 → (fx_div (nI x) (ki 1) = some (nI x) ∧ fx_div (nI x) (nI 10) = some (nI (x / 10)) ∧ (nI x ≤ kb 9 ↔ x ≤ 9) ∧ nI (x / 10) ≤ kb 9 ∧ fx_rem (nI x) (kb 10) = some (nI (x % 10)) ∧ fx_rem (nI (x / 10)) (kb 10) = some (nI (x / 10)) ∧ kb 48 + nI (x % 10) = nI (x % 10 + 48) ∧ kb 48 + nI (x / 10) = nI (x / 10 + 48)) := by decide +kernel
theorem tn_c : ki 1 * kb 10 = nI 10 ∧ fx_div (ki 1) (kb 10) = some (nI 0) ∧ fx_div (nI 10) (kb 10) = some (ki 1) ∧ ¬ ki 1 ≤ 0 ∧ ¬ nI 10 ≤ 0 ∧ nI 0 ≤ 0 := by decide +kernel
section MN
variable {l : Nat → Nat} {M : Nat → Nat → Int32} {h : mm_S} {s : List Nat}
theorem ml_int (hl : ov_L 11 l h) (hs : sL_ (M 0) (M 10) 25 s) {x : Nat} (hx : x < 100) (hn : s.length + (dg_ x).length ≤ 40) : ∃ M', F_X6_writesNumber (mv_ l M h) (l 0) (nI x) = some (mv_ l M' h) ∧ sL_ (M' 0) (M' 10) 25 (s ++ dg_ x) ∧ (∀ a, a ≠ 0 → a ≠ 10 → M' a = M a) ∧ ∀ k, k ≠ 25 → M' 0 k = M 0 k := by
  obtain ⟨d1, d2, d3, d4, d5, d6, d7, d8⟩ := tn_dv x hx
  obtain ⟨c1, c2, c3, c4, c5, c6⟩ := tn_c
  unfold F_X6_writesNumber
  unfold dg_ at hn ⊢
  by_cases q : x < 10
  · rw [if_pos q] at hn ⊢
    obtain ⟨M1, e1, s1, k1, k2⟩ := ml_chr hl hs (v := x + 48) (Nat.lt_of_succ_le hn)
    refine ⟨M1, ?_, s1, k1, k2⟩
    rw [show (1000 : Nat) = 998 + 1 + 1 from rfl, F_X6_writesNumber_L2, d1, Option.bind_some, if_pos (d3.mpr (by omega)), Option.bind_some]
    dsimp only
    rw [F_X6_writesNumber_L18, if_neg c4, d1, Option.bind_some, d5, Option.bind_some, mv_is hl, Option.bind_some, d7, show x % 10 + 48 = x + 48 from by omega, e1, Option.bind_some, c2, Option.bind_some, F_X6_writesNumber_L18, if_pos c6, Option.bind_some]
  · rw [if_neg q] at hn ⊢
    have hn2 : s.length + 2 ≤ 40 := hn
    obtain ⟨M1, e1, s1, k1, k2⟩ := ml_chr hl hs (v := x / 10 + 48) (by omega)
    obtain ⟨M2, e2, s2, k3, k4⟩ := ml_chr hl s1 (v := x % 10 + 48) (by rw [List.length_append, List.length_singleton]; omega)
    refine ⟨M2, ?_, by simpa using s2, fun a h0 h10 => (k3 a h0 h10).trans (k1 a h0 h10), fun k hk => (k4 k hk).trans (k2 k hk)⟩
    rw [show (1000 : Nat) = 997 + 1 + 1 + 1 from rfl, F_X6_writesNumber_L2, d1, Option.bind_some, if_neg (fun y => q (by have := d3.mp y; omega)), c1, F_X6_writesNumber_L2, d2, Option.bind_some, if_pos d4, Option.bind_some]
    dsimp only
    rw [F_X6_writesNumber_L18, if_neg c5, d2, Option.bind_some, d6, Option.bind_some, mv_is hl, Option.bind_some, d8, e1, Option.bind_some, c3, Option.bind_some, F_X6_writesNumber_L18, if_neg c4, d1, Option.bind_some, d5, Option.bind_some, mv_is hl, Option.bind_some, d7, e2, Option.bind_some, c2, Option.bind_some, F_X6_writesNumber_L18, if_pos c6, Option.bind_some]
end MN
theorem S_of2 {n : Nat} {x : Int32} (hn : n < 2 ^ 31) (hx : S_ n x = true) : ∃ j : Nat, j < n ∧ x = nI j := by
  cases n with
  | zero => exact absurd (Int32.le_trans (In_iff.mp hx).1 (In_iff.mp hx).2) (by decide)
  | succ n =>
    unfold S_ at hx
    rw [pk_sub (by omega)] at hx
    obtain ⟨j, hj, e⟩ := In_of (by omega) hx
    exact ⟨j, by omega, e⟩
theorem S_nI2 {n j : Nat} (hn : n < 2 ^ 31) (hj : j < 2 ^ 31) (h : j < n) : S_ n (nI j) = true := by
  unfold S_
  rw [pk_sub (by omega), In_nI (by omega) hj]
  omega
abbrev lq_ (A : Nat → Nat) : Nat → Nat := fun j => A (211 + j)
section LN
variable {A : Nat → Nat} {GG : Nat → Nat → Nat} {Z z z' : Nat → Nat → Int32} {XL : Nat → Int64} {cap : Nat} {K : Nat → mm_Ce} {h h1 : mm_S} {n : Nat} {T : Nat → Int32} {S : Nat → Nat} {sl : List Nat} {M' : Nat → Nat → Int32}
theorem WD_lc {j : Nat} (hj : j < 2) : Cw_ A GG Z XL cap K (211 + j) = tc2_ (lq_ A) (fun j => Z (211 + j)) 16 j := by
  have e := WD_xc (A := A) (GG := GG) (Z := Z) (XL := XL) (cap := cap) (K := K) (j := j + 2) (by omega)
  rw [show 209 + (j + 2) = 211 + j from by omega] at e
  rw [e]
  match j, hj with
  | 0, _ => rfl
  | 1, _ => rfl
theorem WD_lv (hW : WD_ A GG Z XL cap K h) : ov_L 2 (lq_ A) h ∧ tv2_ (lq_ A) (fun j => Z (211 + j)) 16 h = h :=
  ⟨W_L hW (by omega), W_eq hW (by omega) (fun j hj => WD_lc hj)⟩
theorem WD_lp (hW : WD_ A GG Z XL cap K h) : WD_ A GG (zu_ Z 211 2 z) XL cap K (tv2_ (lq_ A) z 16 h) := by
  refine W_put hW (by omega) (fun i hi => ?_)
  by_cases e : 211 ≤ i ∧ i < 211 + 2
  · rw [if_pos e]
    obtain ⟨j, hj, rfl⟩ : ∃ j, j < 2 ∧ i = 211 + j := ⟨i - 211, by omega, by omega⟩
    rw [WD_lc hj, Nat.add_sub_cancel_left]
    match j, hj with
    | 0, _ =>
      show (.inr (7, fB_ (A 212) (zu_ Z 211 2 z 211)) : mm_Ce) = .inr (7, fB_ (A 212) (z 0))
      rw [show zu_ Z 211 2 z 211 = z 0 from zu_in (j := 0) (by decide)]
    | 1, _ =>
      show (.inl (4, 16, .inl (zu_ Z 211 2 z 212)) : mm_Ce) = .inl (4, 16, .inl (z 1))
      rw [show zu_ Z 211 2 z 212 = z 1 from zu_in (j := 1) (by decide)]
  · rw [if_neg e]
    exact Cw_z (kk := 0) (fun i hi => zu_out hi) e (fun p hp => rfl) (.inr (by decide)) (.inr rfl)
theorem ln_is (hW : WD_ A GG Z XL cap K h) (z : Nat → Nat → Int32) : fx_is (tv2_ (lq_ A) z 16 h) (A 211) 7 = some () := tv2_is (WD_lv hW).1
theorem ln_n (hW : WD_ A GG Z XL cap K h) (z : Nat → Nat → Int32) : F_J4_length_8abf5 (tv2_ (lq_ A) z 16 h) (A 211) = some (z 0 3) := tb_len (WD_lv hW).1
theorem ln_lin (hW : WD_ A GG Z XL cap K h) (z : Nat → Nat → Int32) : fx_gR (tv2_ (lq_ A) z 16 h) (A 209) 5 12 = some (A 211) := X_lin (WD_lp hW)
theorem ln_now (hW : WD_ A GG Z XL cap K h) (z : Nat → Nat → Int32) : fx_gR (tv2_ (lq_ A) z 16 h) (A 209) 5 0 = some (A 0) := X_now (WD_lp hW)
theorem ln_R (R : R_ (GG 0) (wt_ Z 0) T n) : R_ (GG 0) (wt_ (zu_ Z 211 2 z) 0) T n := R_cg R (fun i hi => zu_out (by omega))
theorem ln_t (hW : WD_ A GG Z XL cap K h) (R : R_ (GG 0) (wt_ Z 0) T n) (z : Nat → Nat → Int32) : fx_gI (tv2_ (lq_ A) z 16 h) (A 0) 3 5 = some (T 3) := N_t (WD_lp hW) (ln_R R)
theorem ln_G (hW : WD_ A GG Z XL cap K h) (R : R_ (GG 0) (wt_ Z 0) T n) {b k : Nat} (hb : b < 2) (hk : k < 5) (z : Nat → Nat → Int32) : fx_gI (tv2_ (lq_ A) z 16 h) (A (b + 4)) 0 k = some (gT_ T b k) := N_G (WD_lp hW) (ln_R R) hb hk
theorem ln_r1 (hW : WD_ A GG Z XL cap K h) (z : Nat → Nat → Int32) : fx_gR (tv2_ (lq_ A) z 16 h) (A 0) 3 1 = some (A 2) := N_r1 (WD_lp hW)
theorem ln_O (hW : WD_ A GG Z XL cap K h) (R : R_ (GG 0) (wt_ Z 0) T n) {k : Nat} (hk : k < 8) (z : Nat → Nat → Int32) : fx_aI (tv2_ (lq_ A) z 16 h) (A 2) (nI k) = some (oT_ T k) := N_O (WD_lp hW) (ln_R R) hk
theorem ltz_0 {i : Nat} : lt_ A 0 i = A i := by show A (16 * 0 + i) = _; rw [show 16 * 0 + i = i from by omega]
theorem N_S (hW : WD_ A GG Z XL cap K h) (R : R_ (GG 0) (wt_ Z 0) T n) {j k : Nat} (hj : j < n) (hk : k < 7) : fx_gI h (A (GG 0 j)) 2 k = some (sT_ T j k) := by
  have e := T_S (WD_t hW (show 0 < 11 by decide)).1 R hj hk
  rw [(WD_t hW (by decide)).2, ltz_0] at e
  exact e
theorem N_aS (hW : WD_ A GG Z XL cap K h) (R : R_ (GG 0) (wt_ Z 0) T n) {j : Nat} (hj : j < n) : fx_aR h (A 3) (nI j) = some (A (GG 0 j)) := by
  have e := T_aS (WD_t hW (show 0 < 11 by decide)).1 R hj
  rw [(WD_t hW (by decide)).2, ltz_0, ltz_0] at e
  exact e
theorem N_le (hW : WD_ A GG Z XL cap K h) (R : R_ (GG 0) (wt_ Z 0) T n) {j : Nat} (hj : j < n) : F_X2_isLeased h (A (GG 0 j)) = some (bI_ (In_ (nI 0) (nI 1) (sT_ T j 5))) := by
  have e := T_leased (WD_t hW (show 0 < 11 by decide)).1 R hj
  rw [(WD_t hW (by decide)).2, ltz_0] at e
  exact e
theorem N_ss2 (hW : WD_ A GG Z XL cap K h) (R : R_ (GG 0) (wt_ Z 0) T n) {j : Nat} (hj : j < n) : fx_is h (A (GG 0 j)) 2 = some () := by
  have e := T_is (WD_t hW (show 0 < 11 by decide)).1 R hj
  rw [(WD_t hW (by decide)).2, ltz_0] at e
  exact e
theorem N_r2 (hW : WD_ A GG Z XL cap K h) : fx_gR h (A 0) 3 2 = some (A 3) := by
  have e := tv_r2 (g := GG 0) (w := wt_ Z 0) (WD_t hW (show 0 < 11 by decide)).1
  rw [(WD_t hW (by decide)).2] at e
  exact e
theorem N_isS (hW : WD_ A GG Z XL cap K h) (R : R_ (GG 0) (wt_ Z 0) T n) (x : Int32) : F_X3_isStair h (A 0) x = some (bI_ (S_ n x)) := by
  have e := T_isS (WD_t hW (show 0 < 11 by decide)).1 R x
  rw [(WD_t hW (by decide)).2] at e
  exact e
theorem ln_S (hW : WD_ A GG Z XL cap K h) (R : R_ (GG 0) (wt_ Z 0) T n) {j k : Nat} (hj : j < n) (hk : k < 7) (z : Nat → Nat → Int32) : fx_gI (tv2_ (lq_ A) z 16 h) (A (GG 0 j)) 2 k = some (sT_ T j k) := N_S (WD_lp hW) (ln_R R) hj hk
theorem ln_le (hW : WD_ A GG Z XL cap K h) (R : R_ (GG 0) (wt_ Z 0) T n) {j : Nat} (hj : j < n) (z : Nat → Nat → Int32) : F_X2_isLeased (tv2_ (lq_ A) z 16 h) (A (GG 0 j)) = some (bI_ (In_ (nI 0) (nI 1) (sT_ T j 5))) := N_le (WD_lp hW) (ln_R R) hj
theorem ln_ss2 (hW : WD_ A GG Z XL cap K h) (R : R_ (GG 0) (wt_ Z 0) T n) {j : Nat} (hj : j < n) (z : Nat → Nat → Int32) : fx_is (tv2_ (lq_ A) z 16 h) (A (GG 0 j)) 2 = some () := N_ss2 (WD_lp hW) (ln_R R) hj
theorem ln_set (hW : WD_ A GG Z XL cap K h) (s : SM_ GG Z XL cap) : ∃ z0, F_J4_setLength_d00df S h (A 211) (ki 0) = some (tv2_ (lq_ A) z0 16 h) ∧ sL_ (z0 0) (z0 1) 3 [] := by
  obtain ⟨q, hq, e, -⟩ := s.2.2.2.2.2.2.2
  obtain ⟨z0, e0, s0⟩ := tb_set (S := S) (z := fun j => Z (211 + j)) (WD_lv hW).1 (by decide) hq e
  rw [(WD_lv hW).2] at e0
  exact ⟨z0, e0, s0⟩
theorem ln_int (hW : WD_ A GG Z XL cap K h) (hs : sL_ (z 0) (z 1) 3 sl) {x : Nat} (hx : x < 100) (hn : sl.length + 2 ≤ 16) : ∃ z', F_J4_append_bf812 S (tv2_ (lq_ A) z 16 h) (A 211) (nI x) = some (A 211, tv2_ (lq_ A) z' 16 h) ∧ sL_ (z' 0) (z' 1) 3 (sl ++ dg_ x) := tb_int (WD_lv hW).1 (by decide) hs hx (by have := dg_len hx; omega)
theorem ln_int1 (hW : WD_ A GG Z XL cap K h) (hs : sL_ (z 0) (z 1) 3 sl) {x : Nat} (hx : x < 10) (hn : sl.length < 16) : ∃ z', F_J4_append_bf812 S (tv2_ (lq_ A) z 16 h) (A 211) (nI x) = some (A 211, tv2_ (lq_ A) z' 16 h) ∧ sL_ (z' 0) (z' 1) 3 (sl ++ [x + 48]) := by
  have e : dg_ x = [x + 48] := if_pos hx
  have r := tb_int (S := S) (cap := 16) (WD_lv hW).1 (by decide) hs (show x < 100 by omega) (by rw [e]; exact hn)
  rw [e] at r
  exact r
theorem ln_chr (hW : WD_ A GG Z XL cap K h) (hs : sL_ (z 0) (z 1) 3 sl) {v : Nat} (hv : v < 127) (hn : sl.length < 16) : ∃ z', F_J4_append_cf468 S (tv2_ (lq_ A) z 16 h) (A 211) (nI v) = some (A 211, tv2_ (lq_ A) z' 16 h) ∧ sL_ (z' 0) (z' 1) 3 (sl ++ [v]) := tb_chr (WD_lv hW).1 (by decide) hs hn hv
def lr_ (sl : List Nat) : Prop := ∀ v ∈ sl, 32 ≤ v ∧ v ≤ 126
theorem lr_nil : lr_ [] := fun v hv => absurd hv (by simp)
theorem lr_app {a b : List Nat} (ha : lr_ a) (hb : lr_ b) : lr_ (a ++ b) := fun v hv => (List.mem_append.mp hv).elim (ha v) (hb v)
theorem lr_one {v : Nat} (h : 32 ≤ v ∧ v ≤ 126) : lr_ [v] := fun w hw => by rw [List.mem_singleton.mp hw]; exact h
theorem lr_dg {x : Nat} (hx : x < 100) : lr_ (dg_ x) := by
  unfold dg_
  split
  · exact lr_one (by omega)
  · exact lr_app (a := [x / 10 + 48]) (b := [x % 10 + 48]) (lr_one (by omega)) (lr_one (by omega))
theorem lr_at {sl : List Nat} (h : lr_ sl) {k : Nat} (hk : k < sl.length) : 32 ≤ sl.getD k 0 ∧ sl.getD k 0 ≤ 126 := by
  refine h _ ?_
  rw [List.getD_eq_getElem?_getD, List.getElem?_eq_getElem hk]
  exact List.getElem_mem hk
theorem ln_SM (s : SM_ GG Z XL cap) (hs : sL_ (z' 0) (z' 1) 3 sl) (hm : sL_ (M' 0) (M' 10) 25 sl) (hn : sl.length ≤ 16) (hr : lr_ sl) (hM : ∀ a, a ≠ 0 → a ≠ 10 → M' a = Z (213 + a)) (h0 : ∀ k, k ≠ 5 → k ≠ 25 → M' 0 k = Z 213 k) : SM_ GG (zu_ (zu_ Z 211 2 z') 213 11 M') XL cap := by
  obtain ⟨s1, s2, s3, ⟨c, p, hc, hp, ec, ep, em6, s4⟩, s5, s6, s7, s8⟩ := s
  have zM : ∀ j, j < 11 → zu_ (zu_ Z 211 2 z') 213 11 M' (213 + j) = M' j := fun j hj => zm_in hj
  have zz : ∀ i, i < 211 → zu_ (zu_ Z 211 2 z') 213 11 M' i = Z i := fun i hi => by rw [zm_out (by omega), zu_out (by omega)]
  have zM0 : zu_ (zu_ Z 211 2 z') 213 11 M' 213 = M' 0 := zM 0 (by decide)
  refine ⟨?_, s2, ?_, ⟨c, p, hc, hp, ?_, ?_, ?_, fun i hi => ?_⟩, ?_, ?_, ?_, ⟨sl.length, hn, ?_, ?_, fun k hk => ?_⟩⟩
  · rw [show zu_ (zu_ Z 211 2 z') 213 11 M' 214 = M' 1 from zM 1 (by decide), hM 1 (by decide) (by decide)]
    exact TR_cg s1 rfl (fun i hi => zz _ (by omega)) (fun _ _ => rfl)
  · rw [zz 209 (by decide), zM0, h0 14 (by decide) (by decide), show zu_ (zu_ Z 211 2 z') 213 11 M' 217 = M' 4 from zM 4 (by decide), hM 4 (by decide) (by decide)]
    exact ⟨s3.1, s3.2.elim .inl (fun q => .inr ⟨q.1, TR_cg q.2 rfl (fun i hi => zz _ (by omega)) (fun _ _ => rfl)⟩)⟩
  · rw [zz 209 (by decide), ec]
  · rw [zz 209 (by decide), ep]
  · rw [zM0, h0 6 (by decide) (by decide), em6]
  · rw [show zu_ (zu_ Z 211 2 z') 213 11 M' 218 = M' 5 from zM 5 (by decide), hM 5 (by decide) (by decide)]
    have hm := Nat.mod_lt (p + 8 - c + i) (show 0 < 8 by decide)
    exact TR_cg (s4 i hi) rfl (fun j hj => zz _ (by omega)) (fun _ _ => rfl)
  · rw [zM0, h0 9 (by decide) (by decide), h0 10 (by decide) (by decide), h0 11 (by decide) (by decide), h0 12 (by decide) (by decide)]
    exact s5
  · rw [zz 209 (by decide), zM0, h0 13 (by decide) (by decide)]
    exact s6
  · rw [zz 207 (by decide), zz 208 (by decide), zM0, h0 19 (by decide) (by decide), show zu_ (zu_ Z 211 2 z') 213 11 M' 220 = M' 7 from zM 7 (by decide), hM 7 (by decide) (by decide)]
    exact s7
  · rw [zm_out (by decide), show zu_ Z 211 2 z' 211 = z' 0 from zu_in (j := 0) (by decide)]
    exact hs.1
  · rw [zM0]
    exact hm.1
  · rw [zm_out (by decide), show zu_ Z 211 2 z' 212 = z' 1 from zu_in (j := 1) (by decide), show zu_ (zu_ Z 211 2 z') 213 11 M' 223 = M' 10 from zM 10 (by decide), hs.2 k hk, hm.2 k hk]
    exact ⟨rfl, _, (lr_at hr hk).1, (lr_at hr hk).2, rfl⟩
theorem ln_gen {ex : List String} {c : Option ((Int32 ⊕ String) × mm_S)} {m : mm_S → Option (Int32 × mm_S)} (hW : WD_ A GG Z XL cap K h) (s : SM_ GG Z XL cap) (hc : c = some (.inl (nI sl.length), tv2_ (lq_ A) z' 16 h)) (hs : sL_ (z' 0) (z' 1) 3 sl) (hn : sl.length ≤ 16) (hr : lr_ sl) (hm : ∀ H, ov_L 11 (lm_ A) H → ∃ M', m (mv_ (lm_ A) (mw_ Z) H) = some (nI sl.length, mv_ (lm_ A) M' H) ∧ sL_ (M' 0) (M' 10) 25 sl ∧ (∀ a, a ≠ 0 → a ≠ 10 → M' a = Z (213 + a)) ∧ (∀ k, k ≠ 5 → k ≠ 25 → M' 0 k = Z 213 k) ∧ M' 0 5 = nI 0) : RS_ A K ex c m := by
  refine ⟨_, _, _, nI 0, hc, .inl ⟨rfl, rfl⟩, ⟨_, _, _, _, WD_lp (z := z') hW⟩, fun K2 H HX => ?_⟩
  have W1 := HX _ _ _ _ (WD_lp (z := z') hW)
  obtain ⟨M', e, hsm, hM, h0, h5⟩ := hm H (WD_m W1).1
  have em := (WD_m W1).2
  have emw : mw_ (zu_ Z 211 2 z') = mw_ Z := by
    funext j
    show zu_ Z 211 2 z' (213 + j) = Z (213 + j)
    exact zu_out (by omega)
  rw [emw] at em
  rw [em] at e
  have W2 := WD_mp (M' := M') W1
  refine ⟨_, e, ?_, _, _, _, _, W2, ln_SM s hs hsm hn hr hM h0⟩
  rw [mg5 W2, show zu_ (zu_ Z 211 2 z') 213 11 M' 213 = M' 0 from zm_in (j := 0) (by decide), h5]
end LN
