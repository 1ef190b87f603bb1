/-! one case of the law's switch -/
section CS
variable {A A' : Nat → Nat} {GG : Nat → Nat → Nat} {Z : Nat → Nat → Int32} {XL : Nat → Int64} {cap : Nat} {K K2 : Nat → mm_Ce} {h h1 : mm_S} {i : Nat}
theorem Cw_K (hi : 224 ≤ i) : Cw_ A GG Z XL cap K i = K i := by
  unfold Cw_
  rw [if_neg (by omega), if_neg (by omega), if_neg (by omega), if_neg (by omega), if_neg (by omega)]
theorem Cw_lt (hi : i < 224) : Cw_ A GG Z XL cap K i = Cw_ A GG Z XL cap K2 i := by
  unfold Cw_
  by_cases h1 : i < 176
  · rw [if_pos h1, if_pos h1]
  rw [if_neg h1, if_neg h1]
  by_cases h2 : i < 189
  · rw [if_pos h2, if_pos h2]
  rw [if_neg h2, if_neg h2]
  by_cases h3 : i < 209
  · rw [if_pos h3, if_pos h3]
  rw [if_neg h3, if_neg h3]
  by_cases h4 : i < 213
  · rw [if_pos h4, if_pos h4]
  rw [if_neg h4, if_neg h4, if_pos hi, if_pos hi]
theorem WD_put (hW : WD_ A GG Z XL cap K h) (hi : 224 ≤ i) (hi2 : i < 226) {c : mm_Ce} : WD_ A GG Z XL cap (va_up K i c) (mm_put h (A i) c) := by
  unfold WD_
  refine W_cg (W_put1 hW hi2 (c := c)) (fun j hj => ?_)
  by_cases e : j = i
  · subst e
    rw [va_up_self, Cw_K hi, va_up_self]
  · rw [va_up_ne _ _ e]
    by_cases h9 : 224 ≤ j
    · rw [Cw_K h9, Cw_K h9, va_up_ne _ _ e]
    · exact Cw_lt (by omega)
theorem WD_at (hW : WD_ A GG Z XL cap K h) (hi : 224 ≤ i) (hi2 : i < 226) : A i ∈ h.1 ∧ h.2 (A i) = K i := ⟨hW.1 i hi2, (hW.2.2 i hi2).trans (Cw_K hi)⟩
theorem WD_5 (hW : WD_ A GG Z XL cap K h) : A 209 ∈ h.1 ∧ ∃ fs, h.2 (A 209) = .inr (5, fs) := ⟨hW.1 209 (by decide), _, hW.2.2 209 (by decide)⟩
theorem WD_6 (hW : WD_ A GG Z XL cap K h) : A 213 ∈ h.1 ∧ ∃ fs, h.2 (A 213) = .inr (6, fs) := ⟨hW.1 213 (by decide), _, hW.2.2 213 (by decide)⟩
/-- what a small method makes of the call that it guards, the answer kept as a long -/
def WC_ (ex : List String) (o : Nat) (cv : Int32 → Int64) (Q : Int32 → mm_S → Prop) : mm_Re → Prop := fun r => match r with
  | (.inl (some (.int v)), h1) => ∃ g : Nat → Int64, o ∈ h1.1 ∧ h1.2 o = .inl (2, 1, .inr (.inl g)) ∧ Q (nI 0) (mm_put h1 o (.inl (2, 1, .inr (.inl (vp_updL g 0 (cv v))))))
  | (.inr E, h1) => ∃ i, ex[i]? = some E ∧ Q (nI (i + 1)) h1
  | _ => False
/-- what is known behind a small method -/
def PW_ (A : Nat → Nat) (K : Nat → mm_Ce) (m : mm_S → Option (Int32 × mm_S)) (cv : Int32 → Int64) : Int32 → mm_S → Prop := fun kk H => ∃ A' K2 v, (∀ i, i ≠ 208 → A' i = A i) ∧ (∃ g, K2 224 = .inl (2, 1, .inr (.inl g)) ∧ (kk = nI 0 → g 0 = cv v)) ∧ K2 225 = K 225 ∧ (∃ GG Z XL cap, WD_ A' GG Z XL cap K2 H) ∧ ∃ h2, m H = some (v, h2) ∧ fx_gI h2 (A 213) 6 5 = some kk ∧ ST_ A' K2 h2
theorem pw_of {ex : List String} {m : mm_S → Option (Int32 × mm_S)} {cv : Int32 → Int64} {o : Int32 ⊕ String} {v k : Int32} (hexl : ex.length ≤ 2) (hA : ∀ i, i ≠ 208 → A' i = A i) (ok : OK_ ex o v k) (ms : MS_ A' K h1 m v k) (h224 : ∃ g, K 224 = .inl (2, 1, .inr (.inl g))) : WC_ ex (A 224) cv (PW_ A K m cv) (fx_oI o, h1) := by
  obtain ⟨⟨GG, Z, XL, cap, W⟩, ms⟩ := ms
  obtain ⟨g, eg⟩ := h224
  have e224 : A' 224 = A 224 := hA 224 (by decide)
  have e213 : A' 213 = A 213 := hA 213 (by decide)
  obtain ⟨m1, m2⟩ := WD_at W (i := 224) (by decide) (by decide)
  rw [e224] at m1 m2
  rcases ok with ⟨rfl, rfl⟩ | ⟨i, E, e1, rfl, rfl⟩
  · refine ⟨g, m1, m2.trans eg, ?_⟩
    obtain ⟨h2, a1, a2, a3⟩ := ms (va_up K 224 (.inl (2, 1, .inr (.inl (vp_updL g 0 (cv v)))))) (mm_put h1 (A' 224) (.inl (2, 1, .inr (.inl (vp_updL g 0 (cv v)))))) (fun _ _ _ _ w => WD_put w (by decide) (by decide))
    have W2 := WD_put W (i := 224) (c := .inl (2, 1, .inr (.inl (vp_updL g 0 (cv v))))) (by decide) (by decide)
    rw [e224] at a1 W2
    rw [e213] at a2
    exact ⟨A', _, v, hA, ⟨_, va_up_self _ _ _, fun _ => pk_uLs⟩, va_up_ne _ _ (by decide), ⟨_, _, _, _, W2⟩, h2, a1, a2, a3⟩
  · obtain ⟨h2, a1, a2, a3⟩ := ms K h1 (fun _ _ _ _ w => w)
    rw [e213] at a2
    have hi : i < ex.length := (List.getElem?_eq_some_iff.mp e1).1
    exact ⟨i, e1, A', K, v, hA, ⟨g, eg, fun z => absurd ((nI_eq (by omega) (by decide)).mp z) (by omega)⟩, rfl, ⟨_, _, _, _, W⟩, h2, a1, a2, a3⟩
end CS
/-- the rows behind the call of the reference -/
def tl_ok (K : List mm_E) (v pL pE : Nat) (o7 o13 : Int) : Bool := decide (mm_find K (v + 3) = some (.istore 7, 0, 0)) && decide (mm_find K (v + 5) = some (.aload_n 2, 0, 0)) && decide (decode code (v + 6) = .ok (.invokevirtual 152, 3)) && decide (mm_find K (v + 9) = some (.iload 6, 0, 0)) && decide (mm_find K (v + 11) = some (.if_icmp .eq 5, 0, 0)) && decide (mm_find K (v + 16) = some (.iload 6, 0, 0)) && decide (mm_find K (v + 18) = some (.ifCond .ne o7, 0, 0)) && decide (((v + 18 : Nat) : Int) + o7 = (pE : Int)) && decide (mm_find K (v + 21) = some (.aload_n 3, 0, 0)) && decide (mm_find K (v + 22) = some (.iconst 0, 0, 0)) && decide (mm_find K (v + 23) = some (.laload, 0, 0)) && decide (mm_find K pL = some (.lcmp, 0, 0)) && decide (mm_find K (pL + 1) = some (.ifCond .eq 5, 0, 0)) && decide (pL + 6 = pE) && decide (mm_find K pE = some (.goto o13, 0, 0)) && decide ((pE : Int) + o13 = 2671)
theorem lg_cmp_self (x : Int64) : lg_cmp x x = 0 := by
  unfold lg_cmp
  simp
section CT
variable {C : LC_} {b L : Nat} {xs : Nat → Int32} {cells slots : Nat} {x m o o2 n : Nat} {A : Nat → Nat} {K : Nat → mm_Ce} {h : mm_S} {Kc : List mm_E}
/-- behind the call of the reference -/
theorem lc_tail (X : LX_ C b L xs) (hK : Kc.all (lx_eok code 9) = true) {v pL pE : Nat} {o7 o13 : Int} (ht : tl_ok Kc v pL pE o7 o13 = true) {cv : Int32 → Int64} {r kk : Int32} {g : Nat → Int64}
    (hmid : lx_R code 9 (v + 24, [.long (g 0)], (7, .int r) :: (6, .int kk) :: ls_ b x m o o2 n, h) (pL, [.long (cv r), .long (g 0)], (7, .int r) :: (6, .int kk) :: ls_ b x m o o2 n, h))
    (hg : kk = nI 0 → g 0 = cv r) (I : LI_ x m o o2 A K h) (hk : K 224 = .inl (2, 1, .inr (.inl g))) (hth : fx_gI h m 6 5 = some kk) (hc : cells ≤ 603072 ∧ slots ≤ 7215210)
    (hn : LK_ C b cells slots (2671, [], ls_ b x m o o2 n, h)) : LK_ C b cells slots (v + 3, [.int r], (6, .int kk) :: ls_ b x m o o2 n, h) := by
  simp only [tl_ok, Bool.and_eq_true, decide_eq_true_eq] at ht
  obtain ⟨⟨⟨⟨⟨⟨⟨⟨⟨⟨⟨⟨⟨⟨⟨t1, t2⟩, t3⟩, t4⟩, t5⟩, t6⟩, t7⟩, t7b⟩, t8⟩, t9⟩, t10⟩, t11⟩, t12⟩, t12b⟩, t13⟩, t13b⟩ := ht
  obtain ⟨⟨ex, em, eo, eo2⟩, ⟨GG, Z, XL, cap, hW, hsm⟩, -, -⟩ := id I
  obtain ⟨w1, fs6, w2⟩ := WD_6 hW
  obtain ⟨w3, w4⟩ := WD_at hW (i := 224) (by decide) (by decide)
  rw [em] at w1 w2
  rw [eo] at w3 w4
  have fin : LK_ C b cells slots (pE, [], (7, .int r) :: (6, .int kk) :: ls_ b x m o o2 n, h) := by
    refine ll_R X (lr_to hK 2671 t13 t13b lr_rf) ?_
    exact ll_ls (ls_ b x m o o2 n) (by simp [mm_get]) hn
  refine ll_R X (lr_n hK t1 (F2 := (v + 5, [], (7, .int r) :: (6, .int kk) :: ls_ b x m o o2 n, h)) rfl (lr_n hK t2 (F2 := (v + 6, [.ref m], (7, .int r) :: (6, .int kk) :: ls_ b x m o o2 n, h)) rfl lr_rf)) ?_
  have hrun : mm_Run (mm_Xc (SS_ C.2.2.2.2.2.2.2.2.1)) (0 + 1) 124 0 0 [.ref m] h (fun r => ∃ v h2, r = (.inl v, h2) ∧ (v = some (.int kk) ∧ h2 = h)) :=
    r_X6_thrown (mm_Xc_mono _) (d := 0) (c := 0) (k := 0) (o := kk) (by unfold F_X6_thrown; rw [hth]; rfl) ⟨_, _, rfl, rfl, rfl⟩
  refine ll_V (As := []) (n := 0) (mc := 0) (ms := 0) X hrun (by decide) (lx_x 168 rfl) (lx_x 169 rfl) (lx_x 170 rfl) (lx_x 160 rfl) (by decide +kernel) w1 w2 (by decide) rfl (by decide) hc rfl t3 (Nat.zero_le 8) (fun v2 h2 e2 => ?_)
  obtain ⟨rfl, rfl⟩ := e2
  show LK_ C b cells slots (v + 9, [.int kk], (7, .int r) :: (6, .int kk) :: ls_ b x m o o2 n, h2)
  refine ll_R X (lr_n hK t4 (F2 := (v + 11, [.int kk, .int kk], (7, .int r) :: (6, .int kk) :: ls_ b x m o o2 n, h2)) rfl (lr_ct hK (v + 16) t5 (by omega) (show kk = kk from rfl) (lr_n hK t6 (F2 := (v + 18, [.int kk], (7, .int r) :: (6, .int kk) :: ls_ b x m o o2 n, h2)) rfl lr_rf))) ?_
  by_cases h0 : kk = 0
  · refine ll_R X (lr_zf hK t7 (by omega) (show ¬ kk ≠ 0 from fun q => q h0) (lr_n hK t8 (F2 := (v + 22, [.ref o], (7, .int r) :: (6, .int kk) :: ls_ b x m o o2 n, h2)) rfl (lr_n hK t9 (F2 := (v + 23, [.int (ki 0), .ref o], (7, .int r) :: (6, .int kk) :: ls_ b x m o o2 n, h2)) rfl (lr_lL (n := 0) hK t10 w3 (w4.trans hk) (lr_tr hmid (lr_n hK t11 (F2 := (pL + 1, [.int (lg_cmp (g 0) (cv r))], (7, .int r) :: (6, .int kk) :: ls_ b x m o o2 n, h2)) rfl (lr_zt hK pE t12 (by omega) (show lg_cmp (g 0) (cv r) = 0 by rw [hg h0]; exact lg_cmp_self _) lr_rf))))))) fin
  · exact ll_R X (lr_zt hK pE t7 t7b (show kk ≠ 0 from h0) lr_rf) fin
/-- a case of the usual form -/
theorem lc_std (X : LX_ C b L xs) (hK : Kc.all (lx_eok code 9) = true) (I : LI_ x m o o2 A K h) {ex : List String} {cv : Int32 → Int64} {md : mm_S → Option (Int32 × mm_S)} {As Bs : List Value} {a dA bm dM idxV nV pc0 pcS pcV pL pE : Nat} {o7 o13 : Int} (hexl : ex.length ≤ 2)
    (hcr : CR_ A K ex (fun Q => mm_Run (mm_Xc (SS_ C.2.2.2.2.2.2.2.2.1)) dA a 2 80 (.ref (A 209) :: As) h Q) md)
    {y : MethodName} {bytes : ByteArray} {maxL n9 idx : Nat} {hh : List (Nat × Nat × Nat × Nat)}
    (hwr : ∀ Q : Int32 → mm_S → Prop, A 209 ∈ h.1 → (∃ fs, h.2 (A 209) = .inr (5, fs)) → mm_Run (mm_Xc (SS_ C.2.2.2.2.2.2.2.2.1)) dA a 2 80 (.ref (A 209) :: As) h (WC_ ex (A 224) cv Q) → vx_Met C.2.1 y (Cond.codeWith y bytes maxL (some .int) hh :: lx_T) (mm_rm (dA + 1) 2 80) (va_Pc (.ref (A 209) :: (As ++ [.ref (A 224)])) (mm_B C.2.2.2.2.2.2.2.2.1 C.2.2.2.2.2.2.2.2.2.1 C.2.2.2.2.2.2.2.2.2.2.1 (Am_ C.2.2.2.2.2.2.2.2.1 C.2.2.2.2.2.2.2.2.2.2.1) h)) (mm_Qc C.2.2.2.2.2.2.2.2.1 C.2.2.2.2.2.2.2.2.2.1 C.2.2.2.2.2.2.2.2.2.2.1 (WP_ Q)) (mm_XC C.2.2.2.2.2.2.2.2.1 C.2.2.2.2.2.2.2.2.2.1 C.2.2.2.2.2.2.2.2.2.2.1 (WP_ Q)) 2 80 (mm_A C.2.2.2.2.2.2.2.2.2.2.1))
    (g0 : Cond.codeWith y bytes maxL (some .int) hh ∈ lx_T) (g1 : Cond.methodLink "GiantStairsLaw" idx y ∈ lx_T) (g2 : Cond.static y ∈ lx_T) (g3 : Cond.initialized y.cls ∈ lx_T)
    (gd : y.cls ≠ "java/lang/invoke/MethodHandle" ∧ y.cls ≠ "java/lang/invoke/VarHandle" ∧ (parseMethodDescriptor y.desc).map (fun d => d.parameters.length) = some n9) (gmx : maxL ≤ 20) (gdd : dA ≤ 100) (gn : (As ++ [Value.ref (A 224)]).length + 1 = n9) (gdg : decode code pcS = .ok (.invokestatic idx, 3))
    (hp1 : ∀ c k, LK_ C b c k (pcS, (Value.ref (A 209) :: (As ++ [.ref (A 224)])).reverse ++ [], ls_ b x m o o2 n, h) → LK_ C b c k (pc0, [], ls_ b x m o o2 n, h))
    (t6 : mm_find Kc (pcS + 3) = some (.istore 6, 0, 0))
    (hp2 : ∀ c k kk H, LK_ C b c k (pcV, Bs.reverse ++ .ref m :: [], (6, .int kk) :: ls_ b x m o o2 n, H) → LK_ C b c k (pcS + 5, [], (6, .int kk) :: ls_ b x m o o2 n, H))
    (hmr : ∀ H v h2, md H = some (v, h2) → ∀ Q : mm_Re → Prop, Q (.inl (some (.int v)), h2) → mm_Run (mm_Xc (SS_ C.2.2.2.2.2.2.2.2.1)) dM bm 0 0 (.ref (A 213) :: Bs) H Q)
    (v1 : bm < 266) (v2 : Cond.methodLink "GiantStairsLaw" idxV (mm_m bm).2.1 ∈ lx_T) (v3 : Cond.instanceMethod (mm_m bm).2.1 ∈ lx_T) (v4 : Cond.selects (mm_m bm).2.1.cls (mm_m bm).2.1 (mm_m bm).2.1 ∈ lx_T) (v5 : Cond.initialized (mm_m bm).2.1.cls ∈ lx_T) (v6 : (parseMethodDescriptor (mm_m bm).2.1.desc).map (fun d => d.parameters.length) = some nV) (v7 : RX6 = (mm_m bm).2.1.cls) (v8 : dM ≤ 100) (v9 : Bs.length = nV) (v10 : decode code pcV = .ok (.invokevirtual idxV, 3))
    (ht : tl_ok Kc pcV pL pE o7 o13 = true) (hmid : ∀ (g : Nat → Int64) (r kk : Int32) (h : mm_S), lx_R code 9 (pcV + 24, [.long (g 0)], (7, .int r) :: (6, .int kk) :: ls_ b x m o o2 n, h) (pL, [.long (cv r), .long (g 0)], (7, .int r) :: (6, .int kk) :: ls_ b x m o o2 n, h))
    (hc : cells + 2 ≤ 603072 ∧ slots + 80 ≤ 7215210)
    (hn : ∀ A' K' h', LI_ x m o o2 A' K' h' → LK_ C b (cells + 2) (slots + 80) (2671, [], ls_ b x m o o2 n, h')) : LK_ C b cells slots (pc0, [], ls_ b x m o o2 n, h) := by
  obtain ⟨⟨ex1, em, eo, eo2⟩, ⟨GG, Z, XL, cap, hW, hsm⟩, i224, i225⟩ := id I
  refine hp1 _ _ ?_
  have hrun := hcr (WC_ ex (A 224) cv (PW_ A K md cv)) (fun A' oo h1 v k hA ok ms => pw_of hexl hA ok ms i224)
  refine ll_S (n := n9) (d := dA) X (hwr _ (WD_5 hW).1 (WD_5 hW).2 hrun) g0 g1 g2 g3 gd gmx gdd hc gn gdg (Nat.zero_le 8) (fun kk H hP => ?_)
  obtain ⟨A', K2, v, hA, ⟨g, eg, hg⟩, e225, ⟨GG1, Z1, XL1, cap1, W1⟩, h2, q1, q2, q3⟩ := hP
  refine ll_R X (lr_n hK t6 (F2 := (pcS + 5, [], (6, .int kk) :: ls_ b x m o o2 n, H)) rfl lr_rf) ?_
  refine hp2 _ _ _ _ ?_
  have e213 : A' 213 = m := (hA 213 (by decide)).trans em
  obtain ⟨w1, fs6, w2⟩ := WD_6 W1
  rw [e213] at w1 w2
  have hmrun := hmr H v h2 q1 (fun r => ∃ v' h', r = (.inl v', h') ∧ (v' = some (.int v) ∧ h' = h2)) ⟨_, _, rfl, rfl, rfl⟩
  rw [em] at hmrun
  refine ll_V (n := nV) (mc := 0) (ms := 0) X hmrun v1 v2 v3 v4 v5 v6 w1 w2 (by decide) v7 v8 hc v9 v10 (Nat.zero_le 8) (fun v' h' e' => ?_)
  obtain ⟨rfl, rfl⟩ := e'
  have I2 : LI_ x m o o2 A' K2 h' := ⟨⟨(hA 209 (by decide)).trans ex1, e213, (hA 224 (by decide)).trans eo, (hA 225 (by decide)).trans eo2⟩, q3, ⟨g, eg⟩, by rw [e225]; exact i225⟩
  rw [em] at q2
  exact lc_tail X hK ht (hmid g v kk h') hg I2 eg q2 hc (hn A' K2 h' I2)
end CT
