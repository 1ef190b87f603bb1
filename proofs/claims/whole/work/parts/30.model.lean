/-! the model of the reference: eleven cells -/
def fM_ (l : Nat → Nat) (f : Nat → Int32) : List Value := [.ref (l 1), .ref (l 2), .ref (l 3), .ref (l 4), .ref (l 5), .int (f 5), .int (f 6), .int (f 7), .int (f 8), .int (f 9), .int (f 10), .int (f 11), .int (f 12), .int (f 13), .int (f 14), .ref (l 6), .ref (l 7), .ref (l 8), .ref (l 9), .int (f 19), .int (f 20), .int (f 21), .int (f 22), .int (f 23), .ref (l 10), .int (f 25)]
def mc_ (l : Nat → Nat) (M : Nat → Nat → Int32) (i : Nat) : mm_Ce := match i with
  | 0 => .inr (6, fM_ l (M 0))
  | 1 => .inl (0, 110, .inl (M 1))
  | 2 => .inl (0, 110, .inl (M 2))
  | 3 => .inl (0, 110, .inl (M 3))
  | 4 => .inl (0, 110, .inl (M 4))
  | 5 => .inl (0, 880, .inl (M 5))
  | 6 => .inl (0, 8, .inl (M 6))
  | 7 => .inl (0, 60, .inl (M 7))
  | 8 => .inl (0, 32, .inl (M 8))
  | 9 => .inl (0, 96, .inl (M 9))
  | 10 => .inl (0, 40, .inl (M 10))
  | _ => .inl (0, 0, .inl (fun _ => 0))
def mv_ (l : Nat → Nat) (M : Nat → Nat → Int32) (h : mm_S) : mm_S := ov_ 11 (mc_ l M) l h
theorem mc_w {l : Nat → Nat} {M M' : Nat → Nat → Int32} {i : Nat} (e : M i = M' i) : mc_ l M i = mc_ l M' i := by
  unfold mc_
  split <;> simp only [e]
section MV
variable {l : Nat → Nat} {M : Nat → Nat → Int32} {h : mm_S} {i k j : Nat} {v : Int32}
theorem mv_up {i : Nat} {M' : Nat → Nat → Int32} {x : mm_Ce} (hx : x = mc_ l M' i) (hw : ∀ a, a ≠ i → M a = M' a) : ov_ 11 (va_up (mc_ l M) i x) l h = mv_ l M' h := by
  refine ov_ext fun a _ => ?_
  by_cases e : a = i
  · subst e
    rw [va_up_self, hx]
  · rw [va_up_ne _ _ e]
    exact mc_w (hw a e)
theorem mv_pV (hl : ov_L 11 l h) (hk : k < 26) (hs : ∀ f : Nat → Int32, (fM_ l f).set k (.int v) = fM_ l (upd f k v)) (hf : narrow (mm_fty 6 k) (.int v) = .int v ∧ fits (mm_fty 6 k) (.int v) = true) : fx_pV (mv_ l M h) (l 0) 6 k (.int v) = some (mv_ l (w2_ M 0 k v) h) := by
  unfold mv_
  rw [ox_pV hl (by decide) (show mc_ l M 0 = .inr (6, fM_ l (M 0)) from rfl) hk hf, hs]
  exact congrArg some (mv_up (by rw [← w2_upd]; rfl) (fun a ha => (w2_ne ha).symm))
theorem mv_sI {n : Nat} (hl : ov_L 11 l h) (hi : i < 11) (e : ∀ M : Nat → Nat → Int32, mc_ l M i = .inl (0, n, .inl (M i))) (hj : j < n) (hn : n < 2 ^ 31) : fx_sI (mv_ l M h) (l i) (nI j) v = some (mv_ l (w2_ M i j v) h) := by
  unfold mv_
  rw [ox_sI hl hi (e M) hj hn]
  exact congrArg some (mv_up (by rw [e, w2_upd]) (fun a ha => (w2_ne ha).symm))
theorem mv_is (hl : ov_L 11 l h) : fx_is (mv_ l M h) (l 0) 6 = some () := ox_is hl (by decide) rfl
theorem mr_0 (hl : ov_L 11 l h) : fx_gR (mv_ l M h) (l 0) 6 0 = some (l 1) := ox_gR hl (by decide) rfl rfl
theorem mr_1 (hl : ov_L 11 l h) : fx_gR (mv_ l M h) (l 0) 6 1 = some (l 2) := ox_gR hl (by decide) rfl rfl
theorem mr_2 (hl : ov_L 11 l h) : fx_gR (mv_ l M h) (l 0) 6 2 = some (l 3) := ox_gR hl (by decide) rfl rfl
theorem mr_3 (hl : ov_L 11 l h) : fx_gR (mv_ l M h) (l 0) 6 3 = some (l 4) := ox_gR hl (by decide) rfl rfl
theorem mr_4 (hl : ov_L 11 l h) : fx_gR (mv_ l M h) (l 0) 6 4 = some (l 5) := ox_gR hl (by decide) rfl rfl
theorem mr_15 (hl : ov_L 11 l h) : fx_gR (mv_ l M h) (l 0) 6 15 = some (l 6) := ox_gR hl (by decide) rfl rfl
theorem mr_16 (hl : ov_L 11 l h) : fx_gR (mv_ l M h) (l 0) 6 16 = some (l 7) := ox_gR hl (by decide) rfl rfl
theorem mr_17 (hl : ov_L 11 l h) : fx_gR (mv_ l M h) (l 0) 6 17 = some (l 8) := ox_gR hl (by decide) rfl rfl
theorem mr_18 (hl : ov_L 11 l h) : fx_gR (mv_ l M h) (l 0) 6 18 = some (l 9) := ox_gR hl (by decide) rfl rfl
theorem mr_24 (hl : ov_L 11 l h) : fx_gR (mv_ l M h) (l 0) 6 24 = some (l 10) := ox_gR hl (by decide) rfl rfl
theorem mg_5 (hl : ov_L 11 l h) : fx_gI (mv_ l M h) (l 0) 6 5 = some (M 0 5) := ox_gI hl (by decide) rfl rfl
theorem mg_6 (hl : ov_L 11 l h) : fx_gI (mv_ l M h) (l 0) 6 6 = some (M 0 6) := ox_gI hl (by decide) rfl rfl
theorem mg_7 (hl : ov_L 11 l h) : fx_gI (mv_ l M h) (l 0) 6 7 = some (M 0 7) := ox_gI hl (by decide) rfl rfl
theorem mg_8 (hl : ov_L 11 l h) : fx_gI (mv_ l M h) (l 0) 6 8 = some (M 0 8) := ox_gI hl (by decide) rfl rfl
theorem mg_9 (hl : ov_L 11 l h) : fx_gI (mv_ l M h) (l 0) 6 9 = some (M 0 9) := ox_gI hl (by decide) rfl rfl
theorem mg_10 (hl : ov_L 11 l h) : fx_gI (mv_ l M h) (l 0) 6 10 = some (M 0 10) := ox_gI hl (by decide) rfl rfl
theorem mg_11 (hl : ov_L 11 l h) : fx_gI (mv_ l M h) (l 0) 6 11 = some (M 0 11) := ox_gI hl (by decide) rfl rfl
theorem mg_12 (hl : ov_L 11 l h) : fx_gI (mv_ l M h) (l 0) 6 12 = some (M 0 12) := ox_gI hl (by decide) rfl rfl
theorem mg_13 (hl : ov_L 11 l h) : fx_gI (mv_ l M h) (l 0) 6 13 = some (M 0 13) := ox_gI hl (by decide) rfl rfl
theorem mg_14 (hl : ov_L 11 l h) : fx_gI (mv_ l M h) (l 0) 6 14 = some (M 0 14) := ox_gI hl (by decide) rfl rfl
theorem mg_19 (hl : ov_L 11 l h) : fx_gI (mv_ l M h) (l 0) 6 19 = some (M 0 19) := ox_gI hl (by decide) rfl rfl
theorem mg_20 (hl : ov_L 11 l h) : fx_gI (mv_ l M h) (l 0) 6 20 = some (M 0 20) := ox_gI hl (by decide) rfl rfl
theorem mg_21 (hl : ov_L 11 l h) : fx_gI (mv_ l M h) (l 0) 6 21 = some (M 0 21) := ox_gI hl (by decide) rfl rfl
theorem mg_22 (hl : ov_L 11 l h) : fx_gI (mv_ l M h) (l 0) 6 22 = some (M 0 22) := ox_gI hl (by decide) rfl rfl
theorem mg_23 (hl : ov_L 11 l h) : fx_gI (mv_ l M h) (l 0) 6 23 = some (M 0 23) := ox_gI hl (by decide) rfl rfl
theorem mg_25 (hl : ov_L 11 l h) : fx_gI (mv_ l M h) (l 0) 6 25 = some (M 0 25) := ox_gI hl (by decide) rfl rfl
theorem mp_5 (hl : ov_L 11 l h) : fx_pV (mv_ l M h) (l 0) 6 5 (.int v) = some (mv_ l (w2_ M 0 5 v) h) := mv_pV hl (by decide) (fun _ => rfl) (fit_int v)
theorem mp_6 (hl : ov_L 11 l h) : fx_pV (mv_ l M h) (l 0) 6 6 (.int v) = some (mv_ l (w2_ M 0 6 v) h) := mv_pV hl (by decide) (fun _ => rfl) (fit_int v)
theorem mp_7 (hl : ov_L 11 l h) : fx_pV (mv_ l M h) (l 0) 6 7 (.int v) = some (mv_ l (w2_ M 0 7 v) h) := mv_pV hl (by decide) (fun _ => rfl) (fit_int v)
theorem mp_8 (hl : ov_L 11 l h) : fx_pV (mv_ l M h) (l 0) 6 8 (.int v) = some (mv_ l (w2_ M 0 8 v) h) := mv_pV hl (by decide) (fun _ => rfl) (fit_int v)
theorem mp_9 (hl : ov_L 11 l h) : fx_pV (mv_ l M h) (l 0) 6 9 (.int v) = some (mv_ l (w2_ M 0 9 v) h) := mv_pV hl (by decide) (fun _ => rfl) (fit_int v)
theorem mp_10 (hl : ov_L 11 l h) : fx_pV (mv_ l M h) (l 0) 6 10 (.int v) = some (mv_ l (w2_ M 0 10 v) h) := mv_pV hl (by decide) (fun _ => rfl) (fit_int v)
theorem mp_11 (hl : ov_L 11 l h) : fx_pV (mv_ l M h) (l 0) 6 11 (.int v) = some (mv_ l (w2_ M 0 11 v) h) := mv_pV hl (by decide) (fun _ => rfl) (fit_int v)
theorem mp_12 (hl : ov_L 11 l h) : fx_pV (mv_ l M h) (l 0) 6 12 (.int v) = some (mv_ l (w2_ M 0 12 v) h) := mv_pV hl (by decide) (fun _ => rfl) (fit_int v)
theorem mp_13 (hl : ov_L 11 l h) : fx_pV (mv_ l M h) (l 0) 6 13 (.int v) = some (mv_ l (w2_ M 0 13 v) h) := mv_pV hl (by decide) (fun _ => rfl) (fit_int v)
theorem mp_14 (hl : ov_L 11 l h) (hv : narrow .boolean (.int v) = .int v ∧ fits .boolean (.int v) = true) : fx_pV (mv_ l M h) (l 0) 6 14 (.int v) = some (mv_ l (w2_ M 0 14 v) h) := mv_pV hl (by decide) (fun _ => rfl) hv
theorem mp_19 (hl : ov_L 11 l h) : fx_pV (mv_ l M h) (l 0) 6 19 (.int v) = some (mv_ l (w2_ M 0 19 v) h) := mv_pV hl (by decide) (fun _ => rfl) (fit_int v)
theorem mp_20 (hl : ov_L 11 l h) : fx_pV (mv_ l M h) (l 0) 6 20 (.int v) = some (mv_ l (w2_ M 0 20 v) h) := mv_pV hl (by decide) (fun _ => rfl) (fit_int v)
theorem mp_21 (hl : ov_L 11 l h) : fx_pV (mv_ l M h) (l 0) 6 21 (.int v) = some (mv_ l (w2_ M 0 21 v) h) := mv_pV hl (by decide) (fun _ => rfl) (fit_int v)
theorem mp_22 (hl : ov_L 11 l h) : fx_pV (mv_ l M h) (l 0) 6 22 (.int v) = some (mv_ l (w2_ M 0 22 v) h) := mv_pV hl (by decide) (fun _ => rfl) (fit_int v)
theorem mp_23 (hl : ov_L 11 l h) (hv : narrow .boolean (.int v) = .int v ∧ fits .boolean (.int v) = true) : fx_pV (mv_ l M h) (l 0) 6 23 (.int v) = some (mv_ l (w2_ M 0 23 v) h) := mv_pV hl (by decide) (fun _ => rfl) hv
theorem mp_25 (hl : ov_L 11 l h) : fx_pV (mv_ l M h) (l 0) 6 25 (.int v) = some (mv_ l (w2_ M 0 25 v) h) := mv_pV hl (by decide) (fun _ => rfl) (fit_int v)
theorem ma_1 (hl : ov_L 11 l h) (hj : j < 110) : fx_aI (mv_ l M h) (l 1) (nI j) = some (M 1 j) := ox_aI hl (by decide) rfl hj (by decide)
theorem ms_1 (hl : ov_L 11 l h) (hj : j < 110) : fx_sI (mv_ l M h) (l 1) (nI j) v = some (mv_ l (w2_ M 1 j v) h) := mv_sI hl (by decide) (fun _ => rfl) hj (by decide)
theorem ma_2 (hl : ov_L 11 l h) (hj : j < 110) : fx_aI (mv_ l M h) (l 2) (nI j) = some (M 2 j) := ox_aI hl (by decide) rfl hj (by decide)
theorem ms_2 (hl : ov_L 11 l h) (hj : j < 110) : fx_sI (mv_ l M h) (l 2) (nI j) v = some (mv_ l (w2_ M 2 j v) h) := mv_sI hl (by decide) (fun _ => rfl) hj (by decide)
theorem ma_3 (hl : ov_L 11 l h) (hj : j < 110) : fx_aI (mv_ l M h) (l 3) (nI j) = some (M 3 j) := ox_aI hl (by decide) rfl hj (by decide)
theorem ms_3 (hl : ov_L 11 l h) (hj : j < 110) : fx_sI (mv_ l M h) (l 3) (nI j) v = some (mv_ l (w2_ M 3 j v) h) := mv_sI hl (by decide) (fun _ => rfl) hj (by decide)
theorem ma_4 (hl : ov_L 11 l h) (hj : j < 110) : fx_aI (mv_ l M h) (l 4) (nI j) = some (M 4 j) := ox_aI hl (by decide) rfl hj (by decide)
theorem ms_4 (hl : ov_L 11 l h) (hj : j < 110) : fx_sI (mv_ l M h) (l 4) (nI j) v = some (mv_ l (w2_ M 4 j v) h) := mv_sI hl (by decide) (fun _ => rfl) hj (by decide)
theorem ma_5 (hl : ov_L 11 l h) (hj : j < 880) : fx_aI (mv_ l M h) (l 5) (nI j) = some (M 5 j) := ox_aI hl (by decide) rfl hj (by decide)
theorem ms_5 (hl : ov_L 11 l h) (hj : j < 880) : fx_sI (mv_ l M h) (l 5) (nI j) v = some (mv_ l (w2_ M 5 j v) h) := mv_sI hl (by decide) (fun _ => rfl) hj (by decide)
theorem ma_6 (hl : ov_L 11 l h) (hj : j < 8) : fx_aI (mv_ l M h) (l 6) (nI j) = some (M 6 j) := ox_aI hl (by decide) rfl hj (by decide)
theorem ms_6 (hl : ov_L 11 l h) (hj : j < 8) : fx_sI (mv_ l M h) (l 6) (nI j) v = some (mv_ l (w2_ M 6 j v) h) := mv_sI hl (by decide) (fun _ => rfl) hj (by decide)
theorem ma_7 (hl : ov_L 11 l h) (hj : j < 60) : fx_aI (mv_ l M h) (l 7) (nI j) = some (M 7 j) := ox_aI hl (by decide) rfl hj (by decide)
theorem ms_7 (hl : ov_L 11 l h) (hj : j < 60) : fx_sI (mv_ l M h) (l 7) (nI j) v = some (mv_ l (w2_ M 7 j v) h) := mv_sI hl (by decide) (fun _ => rfl) hj (by decide)
theorem ma_8 (hl : ov_L 11 l h) (hj : j < 32) : fx_aI (mv_ l M h) (l 8) (nI j) = some (M 8 j) := ox_aI hl (by decide) rfl hj (by decide)
theorem ms_8 (hl : ov_L 11 l h) (hj : j < 32) : fx_sI (mv_ l M h) (l 8) (nI j) v = some (mv_ l (w2_ M 8 j v) h) := mv_sI hl (by decide) (fun _ => rfl) hj (by decide)
theorem ma_9 (hl : ov_L 11 l h) (hj : j < 96) : fx_aI (mv_ l M h) (l 9) (nI j) = some (M 9 j) := ox_aI hl (by decide) rfl hj (by decide)
theorem ms_9 (hl : ov_L 11 l h) (hj : j < 96) : fx_sI (mv_ l M h) (l 9) (nI j) v = some (mv_ l (w2_ M 9 j v) h) := mv_sI hl (by decide) (fun _ => rfl) hj (by decide)
theorem ma_10 (hl : ov_L 11 l h) (hj : j < 40) : fx_aI (mv_ l M h) (l 10) (nI j) = some (M 10 j) := ox_aI hl (by decide) rfl hj (by decide)
theorem ms_10 (hl : ov_L 11 l h) (hj : j < 40) : fx_sI (mv_ l M h) (l 10) (nI j) v = some (mv_ l (w2_ M 10 j v) h) := mv_sI hl (by decide) (fun _ => rfl) hj (by decide)
theorem bI_fit {p : Prop} [Decidable p] : narrow .boolean (.int (bI_ p)) = .int (bI_ p) ∧ fits .boolean (.int (bI_ p)) = true := by
  unfold bI_
  split <;> exact ⟨rfl, rfl⟩
theorem nI0_fit : narrow .boolean (.int (nI 0)) = .int (nI 0) ∧ fits .boolean (.int (nI 0)) = true := ⟨rfl, rfl⟩
theorem nI1_fit : narrow .boolean (.int (nI 1)) = .int (nI 1) ∧ fits .boolean (.int (nI 1)) = true := ⟨rfl, rfl⟩
/-- another row now -/
def mT_ (M : Nat → Nat → Int32) (T : Nat → Int32) : Nat → Nat → Int32 := fun a => if a = 1 then T else M a
theorem mT_1 {T : Nat → Int32} : mT_ M T 1 = T := if_pos rfl
theorem mT_n {T : Nat → Int32} {a : Nat} (h : a ≠ 1) : mT_ M T a = M a := if_neg h
theorem mT_T {T T' : Nat → Int32} : mT_ (mT_ M T) T' = mT_ M T' := by
  funext a
  unfold mT_
  split <;> rfl
theorem mT_s : mT_ M (M 1) = M := by
  funext a
  unfold mT_
  split
  · next e => rw [e]
  · rfl
theorem w2_mT : w2_ M 1 k v = mT_ M (upd (M 1) k v) := by
  funext a
  by_cases e : a = 1
  · subst e
    rw [w2_upd, mT_1]
  · rw [w2_ne e, mT_n e]
theorem mT_w2 {T : Nat → Int32} {a : Nat} (h : ¬ a = 1) : mT_ (w2_ M a k v) T = w2_ (mT_ M T) a k v := by
  funext b
  by_cases e : b = 1
  · subst e
    rw [mT_1, w2_ne (fun q => h q.symm), mT_1]
  · rw [mT_n e]
    by_cases e2 : b = a
    · subst e2
      rw [w2_upd, w2_upd, mT_n e]
    · rw [w2_ne e2, w2_ne e2, mT_n e]
theorem m_sv (hl : ov_L 11 l h) (hk : 34 + 7 * j + k < 110) : F_X6_sv (mv_ l M h) (l 0) (nI j) (nI k) = some (sT_ (M 1) j k) := by
  unfold F_X6_sv
  rw [mr_0 hl, Option.bind_some, kk_b34, kk_b7, pk_mul, nI_add, nI_add, ma_1 hl hk]
  rfl
theorem m_ls (hl : ov_L 11 l h) (hk : 34 + 7 * j + k < 110) : F_X6_ls (mv_ l M h) (l 0) (nI j) (nI k) v = some (mv_ l (mT_ M (tS_ (M 1) j k v)) h) := by
  unfold F_X6_ls
  rw [mr_0 hl, Option.bind_some, kk_b34, kk_b7, pk_mul, nI_add, nI_add, ms_1 hl hk, w2_mT]
  rfl
theorem m_gv (hl : ov_L 11 l h) (hk : 12 + 5 * j + k < 110) : F_X6_gv (mv_ l M h) (l 0) (nI j) (nI k) = some (gT_ (M 1) j k) := by
  unfold F_X6_gv
  rw [mr_0 hl, Option.bind_some, kk_b12, kj_i5, pk_mul, nI_add, nI_add, ma_1 hl hk]
  rfl
theorem m_more (hl : ov_L 11 l h) (hk : 12 + 5 * j + k < 110) : F_X6_more (mv_ l M h) (l 0) (nI j) (nI k) v = some (mv_ l (mT_ M (tG_ (M 1) j k (gT_ (M 1) j k + v))) h) := by
  unfold F_X6_more
  rw [mr_0 hl, Option.bind_some, kk_b12, kj_i5, pk_mul, nI_add, nI_add, ma_1 hl hk, Option.bind_some, ms_1 hl hk, w2_mT]
  rfl
theorem m_ow (hl : ov_L 11 l h) (hk : j < 8) : F_X6_owner (mv_ l M h) (l 0) (nI j) = some (oT_ (M 1) j) := by
  unfold F_X6_owner
  rw [mr_0 hl, Option.bind_some, kk_b24, nI_add, ma_1 hl (by omega)]
  rfl
theorem m_at (hl : ov_L 11 l h) (hk : j < 110) : fx_aI (mv_ l M h) (l 1) (nI j) = some (M 1 j) := ma_1 hl hk
theorem m_st (hl : ov_L 11 l h) (hk : j < 110) : fx_sI (mv_ l M h) (l 1) (nI j) v = some (mv_ l (mT_ M (upd (M 1) j v)) h) := by
  rw [ms_1 hl hk, w2_mT]
theorem m_in (h : mm_S) (x a b : Int32) : F_X6_in h x a b = some (bI_ (In_ a b x)) := c_in h x a b
theorem m_isL (h : mm_S) (x : Int32) : F_X6_isLanding h x = some (bI_ (In_ (nI 0) (nI 7) x)) := c_isL h x
theorem m_isG (h : mm_S) (x : Int32) : F_X6_isGiant h x = some (bI_ (In_ (nI 0) (nI 1) x)) := c_isG h x
end MV
