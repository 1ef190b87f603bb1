/-! the law's beginning: what it makes -/
theorem mc_l {l l' : Nat → Nat} {M : Nat → Nat → Int32} {j : Nat} (e : ∀ j, j < 11 → l' j = l j) : mc_ l' M j = mc_ l M j := by
  unfold mc_
  split
  · unfold fM_
    simp only [e 1 (by decide), e 2 (by decide), e 3 (by decide), e 4 (by decide), e 5 (by decide), e 6 (by decide), e 7 (by decide), e 8 (by decide), e 9 (by decide), e 10 (by decide)]
  all_goals rfl
theorem PX_c {A A2 : Nat → Nat} {C C2 : Nat → mm_Ce} (h : PX_ 0 A C) (hA : ∀ j, j < 213 → A2 j = A j) (hC : ∀ j, 0 < j → j < 213 → C2 j = C j) : PX_ 0 A2 C2 := by
  obtain ⟨p1, p2, p3, p4, p5, p6, p7, p8⟩ := h
  refine ⟨PT_c p1 (fun j hj => hA _ (by omega)) (fun j hj => hC _ (by omega) (by omega)), PT_c p2 (fun j hj => hA _ (by omega)) (fun j hj => hC _ (by omega) (by omega)), PT_c p3 (fun j hj => hA _ (by omega)) (fun j hj => hC _ (by omega) (by omega)), ?_, fun j hj => ?_, fun j hj => ?_, fun j hj => ?_, fun k hk => PT_c (p8 k hk) (fun j hj => hA _ (by omega)) (fun j hj => hC _ (by omega) (by omega))⟩
  · rw [hC _ (by omega) (by omega), p4, show aR_ 8 (fun j => A2 (0 + 85 + 16 * j)) = aR_ 8 (fun j => A (0 + 85 + 16 * j)) from aR_c (fun k hk => hA _ (by omega))]
  · rw [hC _ (by omega) (by omega), p5 j hj]
    exact (yc_l fun t ht => hA _ (by omega)).symm
  · rw [hC _ (by omega) (by omega), p6 j hj]
    exact (zZ_l fun t ht => hA _ (by omega)).symm
  · rw [hC _ (by omega) (by omega), p7 j hj]
    exact (zS_l (l := fun t => A (0 + 83 + t)) (l' := fun t => A2 (0 + 83 + t)) (hA _ (by omega))).symm
def k_bg : List mm_E := [(3, .dup, 0, 0), (7, .astore_n 1, 0, 0), (11, .dup, 0, 0), (15, .astore_n 2, 0, 0), (16, .iconst 1, 0, 0), (19, .astore_n 3, 0, 0), (20, .iconst 1, 0, 0), (23, .astore 4, 0, 0), (25, .iconst 0, 0, 0), (26, .istore 5, 0, 0)]
theorem kk_bg : k_bg.all (lx_eok code 9) = true := by decide +kernel
section BG
variable {C : LC_} {b L : Nat} {xs : Nat → Int32} {f0 : Nat → mm_Ce}
/-- the cells of the class, newly made -/
def XO_ (q : Nat) (h : mm_S) : Prop := ∃ (A : Nat → Nat) (C : Nat → mm_Ce), A 0 = q ∧ PX_ 0 A C ∧ W_ 213 A (va_up C 0 (.inr (5, [.ref (A 1), .ref (A 17), .ref (A 33), .int (ki 0), .ref (A 49), .int (ki 0), .int (ki 0), .ref (A 50), .ref (A 63), .int (ki (-1)), .long (kl 0), .long (kl 0), .ref (A 83)]))) h
/-- and those of the reference -/
def XM_ (q q1 : Nat) (h : mm_S) : Prop := ∃ (A : Nat → Nat) (C : Nat → mm_Ce), A 0 = q ∧ A 213 = q1 ∧ PX_ 0 A C ∧ C 0 = .inr (5, [.ref (A 1), .ref (A 17), .ref (A 33), .int (ki 0), .ref (A 49), .int (ki 0), .int (ki 0), .ref (A 50), .ref (A 63), .int (ki (-1)), .long (kl 0), .long (kl 0), .ref (A 83)]) ∧ (∀ j, j < 11 → C (213 + j) = mc_ (fun t => A (213 + t)) kM_ j) ∧ W_ 224 A C h
theorem W_none {A : Nat → Nat} {C : Nat → mm_Ce} {h : mm_S} : W_ 0 A C h := ⟨fun i hi => absurd hi (Nat.not_lt_zero _), fun i _ hi => absurd hi (Nat.not_lt_zero _), fun i hi => absurd hi (Nat.not_lt_zero _)⟩
theorem bg_X {S : Nat → Nat} {h : mm_S} {q : Nat} (hq : q ∉ h.1) : mm_Run (mm_Xc S) 4 67 220 1600 [.ref q] (h.1 ++ [q], va_up h.2 q (.inr (5, mm_dfl 5))) (fun r => ∃ h2, r = (.inl none, h2) ∧ XO_ q h2) := by
  have W1 := W_push (W_none (A := fun _ => q) (C := fun _ => .inr (5, mm_dfl 5)) (h := h)) hq (v := .inr (5, mm_dfl 5))
  have e : va_up (fun _ : Nat => q) 0 q 0 = q := va_up_self _ _ _
  have r := k_X (d := 0) (N := 0) (Q := fun r => ∃ h2, r = (.inl none, h2) ∧ XO_ q h2) (mm_Xc_mono S) xs_self W1 (fun A2 C2 h2 e1 _ hp W2 => ⟨h2, rfl, A2, C2, (e1 0 (by decide)).trans e, hp, by simpa using W2⟩)
  rw [e] at r
  exact r
theorem bg_M {S : Nat → Nat} {h : mm_S} {q q1 : Nat} (hX : XO_ q h) (hq : q1 ∉ h.1) : mm_Run (mm_Xc S) 1 123 10 1556 [.ref q1] (h.1 ++ [q1], va_up h.2 q1 (.inr (6, mm_dfl 6))) (fun r => ∃ h2, r = (.inl none, h2) ∧ XM_ q q1 h2) := by
  obtain ⟨A, C, e0, hp, W1⟩ := hX
  have W2 := W_push W1 hq (v := .inr (6, mm_dfl 6))
  have e : va_up A 213 q1 213 = q1 := va_up_self _ _ _
  have eA : ∀ j, j < 213 → va_up A 213 q1 j = A j := fun j hj => va_up_ne _ _ (by omega)
  have r := k_M (d := 0) (mm_Xc_mono S) 213 (va_up A 213 q1) _ _ (fun r => ∃ h2, r = (.inl none, h2) ∧ XM_ q q1 h2) W2 (fun A2 C2 h2 e1 e2 e3 W3 => ?_)
  · rw [e] at r
    exact r
  · have hA : ∀ j, j < 213 → A2 j = A j := fun j hj => (e1 j (by omega)).trans (eA j hj)
    refine ⟨h2, rfl, A2, C2, (hA 0 (by decide)).trans e0, (e1 213 (by decide)).trans e, PX_c hp hA (fun j h0 hj => (e2 j hj).trans (va_up_ne _ _ (by omega))), ?_, fun j hj => e3 j (by omega), W3⟩
    rw [e2 0 (by decide), va_up_self, hA 1 (by decide), hA 17 (by decide), hA 33 (by decide), hA 49 (by decide), hA 50 (by decide), hA 63 (by decide), hA 83 (by decide)]
theorem bg_I {h : mm_S} {q q1 q2 q3 : Nat} (hM : XM_ q q1 h) (h2 : q2 ∉ h.1) (h3 : q3 ∉ h.1 ++ [q2]) : ∃ (A : Nat → Nat) (K : Nat → mm_Ce), LI_ q q1 q2 q3 A K ((h.1 ++ [q2]) ++ [q3], va_up (va_up h.2 q2 (.inl (2, 1, .inr (.inl fun _ => 0)))) q3 (.inl (3, 1, .inr (.inr (.inr (.inl fun _ => 0)))))) := by
  obtain ⟨A, C, e0, e1, hp, hO, hm, W1⟩ := hM
  have W2 := W_push W1 h2 (v := .inl (2, 1, .inr (.inl fun _ => 0)))
  have W3 := W_push W2 h3 (v := .inl (3, 1, .inr (.inr (.inr (.inl fun _ => 0)))))
  have hA : ∀ j, j < 224 → va_up (va_up A 224 q2) 225 q3 j = A j := fun j hj => (va_up_ne _ _ (by omega)).trans (va_up_ne _ _ (by omega))
  have hC : ∀ j, j < 224 → va_up (va_up C 224 (.inl (2, 1, .inr (.inl fun _ => 0)))) 225 (.inl (3, 1, .inr (.inr (.inr (.inl fun _ => 0))))) j = C j := fun j hj => (va_up_ne _ _ (by omega)).trans (va_up_ne _ _ (by omega))
  generalize hA2 : va_up (va_up A 224 q2) 225 q3 = A2 at W3 hA
  generalize hC2 : va_up (va_up C 224 (.inl (2, 1, .inr (.inl fun _ => 0)))) 225 (.inl (3, 1, .inr (.inr (.inr (.inl fun _ => 0))))) = C2 at W3 hC
  refine ⟨fun i => A2 (k_s i), C2, ⟨?_, ?_, ?_, ?_⟩, k_0 W3 ?_ (PX_c hp (fun j hj => hA j (by omega)) (fun j _ hj => hC j (by omega))) (fun j hj => ?_), ?_, ?_⟩
  · exact (hA 0 (by decide)).trans e0
  · exact (hA 213 (by decide)).trans e1
  · show A2 224 = q2
    rw [← hA2, va_up_ne _ _ (by decide), va_up_self]
  · show A2 225 = q3
    rw [← hA2, va_up_self]
  · rw [hC 0 (by decide), hO, hA 1 (by decide), hA 17 (by decide), hA 33 (by decide), hA 49 (by decide), hA 50 (by decide), hA 63 (by decide), hA 83 (by decide)]
  · rw [hC _ (by omega), hm j hj]
    exact (mc_l fun t ht => hA _ (by omega)).symm
  · refine ⟨fun _ => 0, ?_⟩
    rw [← hC2, va_up_ne _ _ (by decide), va_up_self]
  · refine ⟨fun _ => 0, ?_⟩
    rw [← hC2, va_up_self]
theorem lc_begin (X : LX_ C b L xs) (hL : L ≤ 2048) (t5 : (Cond.instantiable RX5 13).before #[Value.ref b] C.2.2.2.1 = true) (t6 : (Cond.instantiable RX6 26).before #[Value.ref b] C.2.2.2.1 = true)
    (hx : ∀ (x m o o2 cells slots n : Nat) (h : mm_S), cells ≤ 603072 → slots ≤ 7215210 → LK_ C b cells slots (2677, [], ls_ b x m o o2 n, h)) : LK_ C b 0 0 (0, [], [(0, .ref b)], ([], f0)) := by
  refine ll_new (a := 5) (idx := 8) X (by decide) (lx_y 11 1 rfl) t5 (lx_x 1 rfl) (by decide) (by decide +kernel) (fun q hq => ?_)
  refine ll_R X (lr_p kk_bg (pc := 3) (P := (Value.ref q).category = 1) (F2 := (4, [.ref q, .ref q], [(0, .ref b)], ([] ++ [q], va_up f0 q (.inr (5, mm_dfl 5))))) rfl rfl rfl lr_rf) ?_
  refine ll_init (a := 67) (d := 4) (idx := 142) X (bg_X hq) (by decide) (lx_y 11 2 rfl) (lx_y 11 3 rfl) (lx_x 1 rfl) (by decide +kernel) rfl rfl (by decide) (by decide) (by decide +kernel) (Nat.le_of_ble_eq_true rfl) (fun h2 hO => ?_)
  refine ll_R X (lr_n kk_bg (pc := 7) rfl (F2 := (8, [], [(1, .ref q), (0, .ref b)], h2)) rfl lr_rf) ?_
  refine ll_new (a := 6) (idx := 143) X (by decide) (lx_y 11 4 rfl) t6 (lx_x 160 rfl) (by decide) (by decide +kernel) (fun q1 hq1 => ?_)
  refine ll_R X (lr_p kk_bg (pc := 11) (P := (Value.ref q1).category = 1) (F2 := (12, [.ref q1, .ref q1], [(1, .ref q), (0, .ref b)], (h2.1 ++ [q1], va_up h2.2 q1 (.inr (6, mm_dfl 6))))) rfl rfl rfl lr_rf) ?_
  refine ll_init (a := 123) (d := 1) (idx := 145) X (bg_M hO hq1) (by decide) (lx_y 11 5 rfl) (lx_y 11 7 rfl) (lx_x 160 rfl) (by decide +kernel) rfl rfl (by decide) (by decide) (by decide +kernel) (Nat.le_of_ble_eq_true rfl) (fun h3 hM => ?_)
  refine ll_R X (lr_n kk_bg (pc := 15) rfl (F2 := (16, [], [(2, .ref q1), (1, .ref q), (0, .ref b)], h3)) rfl (lr_n kk_bg (pc := 16) rfl (F2 := (17, [.int (ki 1)], [(2, .ref q1), (1, .ref q), (0, .ref b)], h3)) rfl lr_rf)) ?_
  refine ll_narr (t := .long) (ti := 2) (f := fun n => (n, .inr (.inl fun _ => 0))) (N := 1) (ty := .long) X rfl (by decide) rfl (by decide) (by decide) (by decide) (fun _ => rfl) (by decide) (fun _ _ z => z) (by decide) (by decide +kernel) (fun q2 hq2 => ?_)
  refine ll_R X (lr_n kk_bg (pc := 19) rfl (F2 := (20, [], [(3, .ref q2), (2, .ref q1), (1, .ref q), (0, .ref b)], (h3.1 ++ [q2], va_up h3.2 q2 (.inl (2, 1, .inr (.inl fun _ => 0)))))) rfl (lr_n kk_bg (pc := 20) rfl (F2 := (21, [.int (ki 1)], [(3, .ref q2), (2, .ref q1), (1, .ref q), (0, .ref b)], (h3.1 ++ [q2], va_up h3.2 q2 (.inl (2, 1, .inr (.inl fun _ => 0)))))) rfl lr_rf)) ?_
  refine ll_narr (t := .double) (ti := 3) (f := fun n => (n, .inr (.inr (.inr (.inl fun _ => 0))))) (N := 1) (ty := .double) X rfl (by decide) rfl (by decide) (by decide) (by decide) (fun _ => rfl) (by decide) (fun _ _ z => z) (by decide) (by decide +kernel) (fun q3 hq3 => ?_)
  refine ll_R X (lr_n kk_bg (pc := 23) rfl (F2 := (25, [], [(4, .ref q3), (3, .ref q2), (2, .ref q1), (1, .ref q), (0, .ref b)], ((h3.1 ++ [q2]) ++ [q3], va_up (va_up h3.2 q2 (.inl (2, 1, .inr (.inl fun _ => 0)))) q3 (.inl (3, 1, .inr (.inr (.inr (.inl fun _ => 0)))))))) rfl (lr_n kk_bg (pc := 25) rfl (F2 := (26, [.int (ki 0)], [(4, .ref q3), (3, .ref q2), (2, .ref q1), (1, .ref q), (0, .ref b)], ((h3.1 ++ [q2]) ++ [q3], va_up (va_up h3.2 q2 (.inl (2, 1, .inr (.inl fun _ => 0)))) q3 (.inl (3, 1, .inr (.inr (.inr (.inl fun _ => 0)))))))) rfl (lr_n kk_bg (pc := 26) rfl (F2 := (28, [], [(5, .int (nI 0)), (4, .ref q3), (3, .ref q2), (2, .ref q1), (1, .ref q), (0, .ref b)], ((h3.1 ++ [q2]) ++ [q3], va_up (va_up h3.2 q2 (.inl (2, 1, .inr (.inl fun _ => 0)))) q3 (.inl (3, 1, .inr (.inr (.inr (.inl fun _ => 0)))))))) rfl lr_rf))) ?_
  refine ll_ls (ls_ b q q1 q2 q3 0) (by simp [mm_get]) ?_
  obtain ⟨A, K, I⟩ := bg_I hM hq2 hq3
  exact lc_loop X hL (fun cells slots n h h1 h2 => hx _ _ _ _ cells slots n h h1 h2) 512 0 _ _ A K _ I (by omega) (by omega) (by decide) (by decide)
end BG
