/-! the laws of all methods that are not run, together -/
theorem zo_a : decode cX1_formOf 0 = .ok (.iload_n 0, 1) := by decide +kernel
theorem zo_b : decode cX1_formOf 1 = .ok (.tableswitch 71 0 7 #[47, 50, 53, 56, 59, 62, 65, 68], 47) := by decide +kernel
theorem zo_r0 : decode cX1_formOf 50 = .ok (.areturn, 1) := by decide +kernel
theorem zo_r1 : decode cX1_formOf 53 = .ok (.areturn, 1) := by decide +kernel
theorem zo_r2 : decode cX1_formOf 56 = .ok (.areturn, 1) := by decide +kernel
theorem zo_r3 : decode cX1_formOf 59 = .ok (.areturn, 1) := by decide +kernel
theorem zo_r4 : decode cX1_formOf 62 = .ok (.areturn, 1) := by decide +kernel
theorem zo_r5 : decode cX1_formOf 65 = .ok (.areturn, 1) := by decide +kernel
theorem zo_r6 : decode cX1_formOf 68 = .ok (.areturn, 1) := by decide +kernel
theorem zo_r7 : decode cX1_formOf 71 = .ok (.areturn, 1) := by decide +kernel
theorem zo_r8 : decode cX1_formOf 74 = .ok (.areturn, 1) := by decide +kernel
theorem sx_lenOk : ∀ i, i < 9 → sx_len.getD i 0 = (fx_tx i).length ∧ (fx_tx i).length < 2 ^ 31 := by decide +kernel
theorem sx_chr : ∀ i, i < 9 → ∀ n, n < (fx_tx i).length → (((((sx_byt.getD i []).getD n 0) &&& 255).toUInt32 % 65536).toInt32 = nI ((fx_tx i).getD n 0) ∧ (fx_tx i).getD n 0 < 65536) := by decide +kernel
/-- the texts as the constants of the class of orders -/
def zr_ (D : va_G) (Amb : State → Heap → Prop) : Prop := ∀ (u : State) (H : Heap), Amb u H → ∀ i : Nat, i < 9 → ∃ tx : String, vk_R RX1 (31 + 2 * i) tx (D.1 (100 + i)) u
section XX
variable {l : Launch} {D : va_G} {tys : List (ClassId × FieldType)} {b0 : Nat} {Amb : State → Heap → Prop} {h : mm_S} {Q : mm_Re → Prop} {c k d : Nat}
theorem fx_ixs {S : Nat → Nat} {q i : Nat} (h : fx_ix S q = some i) : i < 9 ∧ S i = q := by
  have h1 := List.find?_some h
  have h2 := List.mem_of_find?_eq_some h
  exact ⟨List.mem_range.mp h2, by simpa using h1⟩
theorem x_262 (hA : mm_AL l D tys b0 Amb) (hq : zq_ D b0 Amb) {i : Nat} (hi : i < 9) (hQ : Q (.inl (some (.int (nI (fx_tx i).length))), h)) : mm_Met l D tys b0 Amb (d + 1) 262 c k [.ref (D.1 (100 + i))] h Q := by
  show vx_Met l yJ0_length_8abf5 (Cond.code yJ0_length_8abf5 cJ0_length_8abf5 1 (some .int) :: mm_W) (mm_rm (d + 1) c k) (va_Pc [.ref (D.1 (100 + i))] (mm_B D tys b0 Amb h)) (mm_Qc D tys b0 Q) (mm_XC D tys b0 Q) c k (mm_A b0)
  refine zz_in l D tys b0 Amb (by decide) (Nat.le_of_ble_eq_true rfl) fun p e s m below meth cd Z hret hout => ?_
  obtain ⟨hx, hb, hml, hts, hnw, hown, hK, hlk, hb0, hamb⟩ := id Z
  obtain ⟨-, -, q3⟩ := hq s s.heap hamb
  obtain ⟨-, -, q5, q6⟩ := q3.1 i hi
  intro la H locs hl hr hS
  have l0 := mm_at (i := 0) (v := .ref (D.1 (100 + i))) hl rfl
  refine lv_aload_n hx hb zn_0 rfl l0 ?_
  refine vk_getf hx hb q5 hS hown (hts _ (zz_xw 10 rfl)) (fun _ z => z) zn_1 ?_
  refine va_tlen hx hb q6 hS (v := nI (fx_tx i).length) (by rw [(sx_lenOk i hi).1]; rfl) zn_4 ?_
  refine lv_aload_n hx hb zn_5 rfl l0 ?_
  refine mm_called (mc := 0) (ms := 0) (rest := [.int (nI (fx_tx i).length)]) (Q2 := fun r => r = (.inl (some (.int 0)), h)) (zV (rm := { frames := 0, cells := 0, slots := 0, locals := 0 }) (n := 0) (As := []) (b := D.1 (100 + i)) Z hA (s_J0c (Q := fun r => r = (.inl (some (.int 0)), h)) hq hi rfl { frames := 0, cells := 0, slots := 0, locals := 0 }) (zz_g (zz_xw 6 rfl)) (zz_xw 12 rfl) (zz_xw 13 rfl) (zz_xw 14 rfl) (zz_xw 18 rfl) (by decide) rfl rfl (by simp only [mm_rm]; omega) (vk_recv (adK := fun i => D.1 (100 + i)) q3 hi hS) (by simp only [mm_rm]; omega) rfl zn_6 (Nat.le_of_ble_eq_true rfl) hl.1 hr hS) hl hS hout hlk (Nat.zero_le _) (Nat.zero_le _) (fun v2 h2 e2 => ?_) (fun E h2 e2 => by cases e2)
  cases e2
  intro la2 H2 locs2 hl2 hr2 hS2
  refine lv_ishr hx hb zn_9 ?_
  rw [sb_shr0]
  refine W.widen (k := c) (n := k) (Nat.zero_le _) (Nat.zero_le _) (vx_ret ?_)
  exact W.zret hx hb hret rfl (fun t ht hW => ⟨⟨_, h, rfl, hQ, by rw [ht]; exact hr2⟩, hS2.F ht⟩) hS2.2.2 zn_10 (hlocks := hlk)
theorem x_263 (hA : mm_AL l D tys b0 Amb) (hq : zq_ D b0 Amb) {i n : Nat} (hi : i < 9) (hn : n < (fx_tx i).length) (hQ : Q (.inl (some (.int (nI ((fx_tx i).getD n 0)))), h)) : mm_Met l D tys b0 Amb (d + 1) 263 c k [.ref (D.1 (100 + i)), .int (nI n)] h Q := by
  obtain ⟨z1, z2⟩ := sx_lenOk i hi
  obtain ⟨z3, z4⟩ := sx_chr i hi n hn
  have hn31 : n < 2 ^ 31 := Nat.lt_trans hn z2
  show vx_Met l yJ0_charAt_5068e (Cond.code yJ0_charAt_5068e cJ0_charAt_5068e 2 (some .char) :: mm_W) (mm_rm (d + 1) c k) (va_Pc [.ref (D.1 (100 + i)), .int (nI n)] (mm_B D tys b0 Amb h)) (mm_Qc D tys b0 Q) (mm_XC D tys b0 Q) c k (mm_A b0)
  refine zz_in l D tys b0 Amb (by decide) (Nat.le_of_ble_eq_true rfl) fun p e s m below meth cd Z hret hout => ?_
  obtain ⟨hx, hb, hml, hts, hnw, hown, hK, hlk, hb0, hamb⟩ := id Z
  obtain ⟨-, -, q3⟩ := hq s s.heap hamb
  obtain ⟨-, -, q5, q6⟩ := q3.1 i hi
  intro la H locs hl hr hS
  have l0 := mm_at (i := 0) (v := .ref (D.1 (100 + i))) hl rfl
  refine lv_aload_n hx hb zh_0 rfl l0 ?_
  refine mm_called (mc := 0) (ms := 0) (rest := []) (Q2 := fun r => r = (.inl (some (.int 1)), h)) (zV (rm := { frames := 0, cells := 0, slots := 0, locals := 0 }) (n := 0) (As := []) (b := D.1 (100 + i)) Z hA (s_J0l (Q := fun r => r = (.inl (some (.int 1)), h)) hq hi rfl { frames := 0, cells := 0, slots := 0, locals := 0 }) (zz_g (zz_xw 7 rfl)) (zz_xw 15 rfl) (zz_xw 16 rfl) (zz_xw 17 rfl) (zz_xw 18 rfl) (by decide) rfl rfl (by simp only [mm_rm]; omega) (vk_recv (adK := fun i => D.1 (100 + i)) q3 hi hS) (by simp only [mm_rm]; omega) rfl zh_1 (Nat.le_of_ble_eq_true rfl) hl.1 hr hS) hl hS hout hlk (Nat.zero_le _) (Nat.zero_le _) (fun v2 h2 e2 => ?_) (fun E h2 e2 => by cases e2)
  cases e2
  intro la2 H2 locs2 hl2 hr2 hS2
  have l0 := mm_at (i := 0) (v := .ref (D.1 (100 + i))) hl2 rfl
  have l1 := mm_at (i := 1) (v := .int (nI n)) hl2 rfl
  refine lv_if_eq hx hb zh_4 (tgt := 16) rfl (fun z => absurd z (by decide)) (fun _ => ?_)
  refine lv_aload_n hx hb zh_7 rfl l0 ?_
  refine vk_getf hx hb q5 hS2 hown (hts _ (zz_xw 10 rfl)) (fun _ z => z) zh_8 ?_
  refine lv_iload_n hx hb zh_11 rfl l1 ?_
  refine mm_called (mc := 0) (ms := 0) (rest := []) (Q2 := fun r => r = (.inl (some (.int (nI ((fx_tx i).getD n 0)))), h)) (zS (rm := { frames := 2, cells := 0, slots := 0, locals := 43 }) (n := 2) (As := [.ref (D.1 (200 + i)), .int (nI n)]) Z hA (s_J1a (Q := fun r => r = (.inl (some (.int (nI ((fx_tx i).getD n 0)))), h)) hA hq hi (nI_pos hn31) (by rw [z1]; exact nI_lt hn z2) (by rw [z1]; exact vp_in_nI hn z2) (by rw [nI_clamp hn31]; exact z3) (pk_charN z4).1 rfl { frames := 2, cells := 0, slots := 0, locals := 43 } (by decide) (by decide)) (zz_g (zz_xw 8 rfl)) (zz_xw 19 rfl) (zz_xw 20 rfl) (zz_xw 25 rfl) (by decide) rfl rfl (by simp only [mm_rm]; omega) (by simp only [mm_rm]; omega) rfl zh_12 (Nat.le_of_ble_eq_true rfl) hl2.1 hr2 hS2) hl2 hS2 hout hlk (Nat.zero_le _) (Nat.zero_le _) (fun v2 h2 e2 => ?_) (fun E h2 e2 => by cases e2)
  cases e2
  intro la3 H3 locs3 hl3 hr3 hS3
  refine W.widen (k := c) (n := k) (Nat.zero_le _) (Nat.zero_le _) (vx_ret ?_)
  exact W.zret hx hb hret (pk_charN z4).1 (fun t ht hW => ⟨⟨_, h, rfl, hQ, by rw [ht]; exact hr3⟩, hS3.F ht⟩) hS3.2.2 zh_15 (hlocks := hlk)
theorem x_264 (hA : mm_AL l D tys b0 Amb) (hq : zq_ D b0 Amb) {j n : Int32} (hj : ¬ j < 0) (hjn : j < n) (hQ : Q (.inl none, h)) : mm_Met l D tys b0 Amb (d + 1) 264 c k [.int j, .int n] h Q :=
  s_J0i hA hq hj hjn hQ (mm_rm (d + 1) c k) (by simp only [mm_rm]; omega) (by simp only [mm_rm]; omega)
/-- the form of an order of kind i -/
theorem x_3f (hr : zr_ D Amb) {i : Nat} (hi : i < 9) {x : Int32} (hx0 : (if x.toInt < 0 ∨ 7 < x.toInt then 8 else x.toInt.toNat) = i) (hQ : Q (.inl (some (.ref (D.1 (100 + i)))), h)) : mm_Met l D tys b0 Amb (d + 1) 3 c k [.int x] h Q := by
  show vx_Met l yX1_formOf (Cond.code yX1_formOf cX1_formOf 1 (some (.object "java/lang/String")) :: mm_W) (mm_rm (d + 1) c k) (va_Pc [.int x] (mm_B D tys b0 Amb h)) (mm_Qc D tys b0 Q) (mm_XC D tys b0 Q) c k (mm_A b0)
  refine zz_in l D tys b0 Amb (by decide) (Nat.le_of_ble_eq_true rfl) fun p e s m below meth cd Z hret hout => ?_
  obtain ⟨hx, hb, hml, hts, hnw, hown, hK, hlk, hb0, hamb⟩ := id Z
  obtain ⟨tx, hv⟩ := hr s s.heap hamb i hi
  intro la H locs hl hr hS
  have l0 := mm_at (i := 0) (v := .int x) hl rfl
  refine lv_iload_n hx hb zo_a rfl l0 ?_
  have fin : ∀ pc pr : Nat, pr = pc + 2 → decode cX1_formOf pc = .ok (.ldc (31 + 2 * i), 2) → decode cX1_formOf pr = .ok (.areturn, 1) → W p l e (mm_rm (d + 1) c k) s m [Value.int x].toArray below meth cd H locs 0 0 (vx_MQ below (mm_Qc D tys b0 Q) (mm_XC D tys b0 Q) [Value.int x].toArray s c k (mm_A b0)) (F0 m pc la []) := by
    intro pc pr e1 d1 d2
    subst e1
    refine va_ldcS hx hb hown hv d1 ?_
    refine W.widen (k := c) (n := k) (Nat.zero_le _) (Nat.zero_le _) (vx_ret ?_)
    exact W.aret hx hb hret (Or.inl ⟨_, rfl⟩) (Or.inr ⟨_, rfl⟩) (fun t ht hW => ⟨⟨_, h, rfl, hQ, by rw [ht]; exact hr⟩, hS.F ht⟩) hS.2.2 d2 (hlocks := hlk)
  by_cases hz : x.toInt < 0 ∨ 7 < x.toInt
  · rw [if_pos hz] at hx0
    subst hx0
    exact lv_tableOut hx hb zo_b hz (tgt := 72) rfl (fin 72 74 rfl zo_72 zo_r8)
  · rw [if_neg hz] at hx0
    have h1 : ¬ x.toInt < 0 := fun z => hz (.inl z)
    have h2 : ¬ 7 < x.toInt := fun z => hz (.inr z)
    have e9 : (x.toInt - 0).toNat = i := by omega
    have hi8 : i < 8 := by omega
    match i, hi8, e9, fin with
    | 0, _, e9, fin => exact lv_tableIn hx hb zo_b h1 h2 (off := 47) (by rw [e9]; rfl) (tgt := 48) rfl (fin 48 50 rfl zo_48 zo_r0)
    | 1, _, e9, fin => exact lv_tableIn hx hb zo_b h1 h2 (off := 50) (by rw [e9]; rfl) (tgt := 51) rfl (fin 51 53 rfl zo_51 zo_r1)
    | 2, _, e9, fin => exact lv_tableIn hx hb zo_b h1 h2 (off := 53) (by rw [e9]; rfl) (tgt := 54) rfl (fin 54 56 rfl zo_54 zo_r2)
    | 3, _, e9, fin => exact lv_tableIn hx hb zo_b h1 h2 (off := 56) (by rw [e9]; rfl) (tgt := 57) rfl (fin 57 59 rfl zo_57 zo_r3)
    | 4, _, e9, fin => exact lv_tableIn hx hb zo_b h1 h2 (off := 59) (by rw [e9]; rfl) (tgt := 60) rfl (fin 60 62 rfl zo_60 zo_r4)
    | 5, _, e9, fin => exact lv_tableIn hx hb zo_b h1 h2 (off := 62) (by rw [e9]; rfl) (tgt := 63) rfl (fin 63 65 rfl zo_63 zo_r5)
    | 6, _, e9, fin => exact lv_tableIn hx hb zo_b h1 h2 (off := 65) (by rw [e9]; rfl) (tgt := 66) rfl (fin 66 68 rfl zo_66 zo_r6)
    | 7, _, e9, fin => exact lv_tableIn hx hb zo_b h1 h2 (off := 68) (by rw [e9]; rfl) (tgt := 69) rfl (fin 69 71 rfl zo_69 zo_r7)
    | j + 8, hj, _, _ => exact absurd hj (by omega)
end XX
section EZ
variable {p : Program} {l : Launch} {e : Env} {R : Room} {s : State} {m : MethodId} {args : Array Value} {below : List Frame} {meth : Method} {cd : Code} {H : Heap} {locs : List Loc}
variable {nL o y d c k : Nat} {ini : Bool} {D : va_G} {tys : List (ClassId × FieldType)} {b0 : Nat} {Amb : State → Heap → Prop} {X : mm_Cl} {S : Nat → Nat} {Q : mm_Re → Prop}
theorem kk_cf (hy : y < 266) (Z : mm_Z p l R s m args meth cd (mm_m y).2.2.1 (mm_m y).2.2.2.1 (mm_m y).1 (mm_ini y) y d c k D tys b0 Amb X) {K : List mm_E} {c2 k2 pc a b : Nat} {rest : List Value} {ls : mm_L} {h : mm_S} (ec : mm_cd y = K) {x z : Int32} {cn : Jvm.ClassFile.Cond} {off : Int} (hf : mm_find K pc = some (.if_icmp cn off, a, b)) (ht : 0 ≤ (pc : Int) + off) (hc : ¬ mm_cnd cn x z)
    (g : mm_KK p l e R s m args below meth cd c k Q (mm_m y).2.2.2.1 D tys b0 (pc + 3, rest, ls, h) c2 k2) : mm_KK p l e R s m args below meth cd c k Q (mm_m y).2.2.2.1 D tys b0 (pc, .int z :: .int x :: rest, ls, h) c2 k2 := by
  refine kk_p hy Z ec hf rfl ht ?_
  rw [mm_cm_f hc]
  exact g
theorem kk_sB (hy : y < 266) (Z : mm_Z p l R s m args meth cd (mm_m y).2.2.1 (mm_m y).2.2.2.1 (mm_m y).1 (mm_ini y) y d c k D tys b0 Amb X) {K : List mm_E} {c2 k2 pc a b q : Nat} {rest : List Value} {ls : mm_L} {h h2 : mm_S} {j x : Int32} (ec : mm_cd y = K) (hf : mm_find K pc = some (.bastore, a, b)) (e1 : fx_sB h q j x = some h2)
    (g : mm_KK p l e R s m args below meth cd c k Q (mm_m y).2.2.2.1 D tys b0 (pc + 1, rest, ls, h2) c2 k2) : mm_KK p l e R s m args below meth cd c k Q (mm_m y).2.2.2.1 D tys b0 (pc, .int x :: .int j :: .ref q :: rest, ls, h) c2 k2 := by
  obtain ⟨z, e2, e3⟩ := mm_bind e1
  obtain ⟨hq, hc, ht⟩ := fx_arI_s e2
  rcases mm_ite e3 with ⟨hi, e3⟩ | ⟨-, e3⟩
  · rcases mm_ite e3 with ⟨h1, e3⟩ | ⟨h1, e3⟩
    · cases e3
      refine kk_p hy Z ec hf (P := q ∈ h.1 ∧ vp_in j z.2.1) ?_ ⟨hq, fx_in_of hi⟩ g
      simp only [mm_st, mm_arI, hc, h1, if_true]
    · cases e3
      have h4 : z.1 = 4 := by
        simp only [List.mem_cons, List.not_mem_nil, or_false] at ht
        exact ht.resolve_left h1
      refine kk_p hy Z ec hf (P := q ∈ h.1 ∧ vp_in j z.2.1) ?_ ⟨hq, fx_in_of hi⟩ g
      simp only [mm_st, mm_arI, hc, h4, if_true, if_neg (show ¬ (4 : Nat) = 1 by decide)]
  · cases e3
/-- the digits of a number below 100 -/
def va_D2 (b0 : Nat) (Amb : State → Heap → Prop) : Prop := ∀ (u : State) (H : Heap), Amb u H → ∃ (t : Nat) (f : Nat → Value) (t2 : Nat) (f2 : Nat → Value), va_Z "java/lang/Integer" "DigitOnes" "[B" (.ref t) (mm_A b0) u H ∧ va_T .byte t 100 f (mm_A b0) u H ∧ va_Z "java/lang/Integer" "DigitTens" "[B" (.ref t2) (mm_A b0) u H ∧ va_T .byte t2 100 f2 (mm_A b0) u H ∧ ∀ n, n < 100 → f n = .int (nI (n % 10 + 48)) ∧ f2 n = .int (nI (n / 10 + 48))
theorem x_d2 : ∀ n, n < 100 → (10 ≤ n → kb (-100) < -(nI n) ∧ ¬ kb (-9) ≤ -(nI n) ∧ -(-(nI n)) = nI n ∧ nI (n % 10 + 48) = nI n - nI n / 10 * 10 + 48 ∧ nI (n / 10 + 48) = nI n / 10 + 48) ∧ (n < 10 → nI (n % 10 + 48) = nI n + 48) := by decide +kernel
theorem va_D21 (h : va_D2 b0 Amb) : va_D1 b0 Amb := by
  intro u H hu
  obtain ⟨t, f, t2, f2, z1, z2, z3, z4, z5⟩ := h u H hu
  refine ⟨t, f, z1, z2, fun n hn => ?_⟩
  rw [(z5 n (by omega)).1, (x_d2 n (by omega)).2 hn]
theorem x_256b (hty : tys.map (fun q => q.2) = mm_tyl) (hA : mm_AL l D tys b0 Amb) (hX : mm_mono X) (hC : va_D2 b0 Amb) (IH : ∀ (y c k : Nat) (args : List Value) (h : mm_S) (Q : mm_Re → Prop), mm_Run X d y c k args h Q → mm_Met l D tys b0 Amb d y c k args h Q)
    {q n : Nat} {j : Int32} {h h2 h3 : mm_S} (hn : 10 ≤ n) (hn2 : n < 100) (e1 : fx_sB h q (j - 1) (nI n - nI n / 10 * 10 + 48) = some h2) (e2 : fx_sB h2 q (j - 1 - 1) (nI n / 10 + 48) = some h3) (hQ : Q (.inl (some (.int (j - 1 - 1))), h3)) : mm_Met l D tys b0 Amb (d + 1) 256 c k [.int (nI n), .int j, .ref q] h Q := by
  obtain ⟨d1, d2, d3, d4, d5⟩ := (x_d2 n hn2).1 hn
  refine mm_enter l D tys b0 Amb hty hA X IH (by decide) (Nat.le_of_ble_eq_true rfl) fun p e s m below meth cd Z => ?_
  have hamb := Z.2.2.2.2.2.2.1
  obtain ⟨t, f, t2, f2, z1, z2, z4, z5, z3⟩ := hC s s.heap hamb
  have hin : vp_in (nI n) 100 := fun z => z.elim (nI_pos (by omega)) (fun z => by rw [nI_clamp (show n < 2 ^ 31 by omega)] at z; omega)
  have ej : ∀ x : Int32, x + ki (-1) = x - 1 := fun x => by
    show x + (-1) = x - 1
    rw [Int32.sub_eq_add_neg]
  refine kk_adv (by decide) Z c_256 3 (F2 := (4, [.int (nI n)], [(5, .int j), (0, .int (nI n)), (1, .int j), (2, .ref q)], h)) rfl ?_
  refine kk_zt (by decide) Z c_256 11 rfl rfl (nI_pos' (by omega)) ?_
  refine kk_adv (by decide) Z c_256 3 (F2 := (16, [.int (ki 0)], [(6, .int (ki 0)), (5, .int j), (0, .int (nI n)), (1, .int j), (2, .ref q)], h)) rfl ?_
  refine kk_zf (by decide) Z c_256 rfl (by decide) (show ¬ ki 0 ≠ 0 by decide) ?_
  refine kk_adv (by decide) Z c_256 3 (F2 := (22, [], [(0, .int (-(nI n))), (6, .int (ki 0)), (5, .int j), (1, .int j), (2, .ref q)], h)) rfl ?_
  refine kk_adv (by decide) Z c_256 2 (F2 := (25, [.int (kb (-100)), .int (-(nI n))], [(0, .int (-(nI n))), (6, .int (ki 0)), (5, .int j), (1, .int j), (2, .ref q)], h)) rfl ?_
  refine kk_ct (by decide) Z c_256 72 rfl rfl d1 ?_
  refine kk_adv (by decide) Z c_256 3 (F2 := (78, [.int (j + ki (-1)), .ref q], [(5, .int (j + ki (-1))), (0, .int (-(nI n))), (6, .int (ki 0)), (1, .int j), (2, .ref q)], h)) rfl ?_
  refine mm_gst (v := .ref t) (a := 2) (i := 83) Z (by decide +kernel) (by decide) z1 ?_
  refine kk_adv (by decide) Z c_256 2 (F2 := (83, [.int (-(-(nI n))), .ref t, .int (j + ki (-1)), .ref q], [(5, .int (j + ki (-1))), (0, .int (-(nI n))), (6, .int (ki 0)), (1, .int j), (2, .ref q)], h)) rfl ?_
  rw [d3]
  refine kk_tb (v := .int (nI n - nI n / 10 * 10 + 48)) Z z2 hin (by rw [nI_clamp (show n < 2 ^ 31 by omega), (z3 n hn2).1, d4]) (by decide +kernel) ?_
  rw [ej]
  refine kk_sB (by decide) Z c_256 rfl e1 ?_
  refine kk_adv (by decide) Z c_256 2 (F2 := (88, [.int (kb (-9)), .int (-(nI n))], [(5, .int (j - 1)), (0, .int (-(nI n))), (6, .int (ki 0)), (1, .int j), (2, .ref q)], h2)) rfl ?_
  refine kk_cf (by decide) Z c_256 rfl (by decide) d2 ?_
  refine kk_adv (by decide) Z c_256 3 (F2 := (97, [.int (j - 1 + ki (-1)), .ref q], [(5, .int (j - 1 + ki (-1))), (0, .int (-(nI n))), (6, .int (ki 0)), (1, .int j), (2, .ref q)], h2)) rfl ?_
  refine mm_gst (v := .ref t2) (a := 3) (i := 87) Z (by decide +kernel) (by decide) z4 ?_
  refine kk_adv (by decide) Z c_256 2 (F2 := (102, [.int (-(-(nI n))), .ref t2, .int (j - 1 + ki (-1)), .ref q], [(5, .int (j - 1 + ki (-1))), (0, .int (-(nI n))), (6, .int (ki 0)), (1, .int j), (2, .ref q)], h2)) rfl ?_
  rw [d3]
  refine kk_tb (v := .int (nI n / 10 + 48)) Z z5 hin (by rw [nI_clamp (show n < 2 ^ 31 by omega), (z3 n hn2).2, d5]) (by decide +kernel) ?_
  rw [ej]
  refine kk_sB (by decide) Z c_256 rfl e2 ?_
  refine mm_walk (by decide) Z ?_
  show mm_Ex (mm_Run X d) 256 Q (104, [], [(5, .int (j - 1 - 1)), (0, .int (-(nI n))), (6, .int (ki 0)), (1, .int j), (2, .ref q)], h3) c k
  refine go_adv hX c_256 1 (F2 := (106, [.int (ki 0)], [(5, .int (j - 1 - 1)), (0, .int (-(nI n))), (6, .int (ki 0)), (1, .int j), (2, .ref q)], h3)) rfl ?_
  refine go_zt hX 118 c_256 rfl rfl (show ki 0 = 0 by decide) ?_
  refine go_adv hX c_256 1 (F2 := (120, [.int (j - 1 - 1)], [(5, .int (j - 1 - 1)), (0, .int (-(nI n))), (6, .int (ki 0)), (1, .int j), (2, .ref q)], h3)) rfl ?_
  exact go_iret hX c_256 rfl rfl rfl hQ
/-- all of them -/
theorem x_all (hty : tys.map (fun q => q.2) = mm_tyl) (hA : mm_AL l D tys b0 Amb) (hq : zq_ D b0 Amb) (hr : zr_ D Amb) (hD : va_D2 b0 Amb) :
    ∀ d : Nat, (∀ (y c k : Nat) (args : List Value) (h : mm_S) (Q : mm_Re → Prop), mm_Run (mm_Xc (fun i => D.1 (100 + i))) d y c k args h Q → mm_Met l D tys b0 Amb d y c k args h Q) → ∀ (y c k : Nat) (args : List Value) (h : mm_S) (Q : mm_Re → Prop), y ∈ mm_ext → y < 266 → (lg_sl args).length ≤ (mm_m y).2.2.2.1 → mm_Xc (fun i => D.1 (100 + i)) y c k args h Q → mm_Met l D tys b0 Amb (d + 1) y c k args h Q := by
  intro d IH y c k args h Q he hy hle g
  have hX := mm_Xc_mono (fun i => D.1 (100 + i))
  have hC1 : va_CS1 b0 Amb := fun u H hu => (hq u H hu).1
  rcases g with ⟨rfl, x, v, rfl, h2, h3⟩ | ⟨rfl, x, v, rfl, h2, h3⟩ | ⟨rfl, x, j, v, rfl, h2, h3⟩ | ⟨rfl, x, j, v, rfl, h2, h3⟩ | ⟨rfl, x, j, q, o, rfl, h2, h3⟩ | ⟨rfl, x, v, rfl, h2, h3⟩ | ⟨rfl, q, n, fs, rfl, h2, h3, h4, h5, h6, h8, h7⟩
  · unfold F_X1_formOf at h2
    cases h2
    refine x_3f hr (i := if x.toInt < 0 ∨ 7 < x.toInt then 8 else x.toInt.toNat) ?_ rfl h3
    split <;> omega
  · obtain ⟨i, e1, e2⟩ := Option.bind_eq_some_iff.mp h2
    obtain ⟨hi, rfl⟩ := fx_ixs e1
    cases e2
    exact x_262 hA hq hi h3
  · obtain ⟨i, e1, e2⟩ := Option.bind_eq_some_iff.mp h2
    obtain ⟨hi, rfl⟩ := fx_ixs e1
    split at e2
    · next e3 =>
      cases e2
      obtain ⟨n, hn, rfl⟩ := vp_in_of (fx_in_of e3) (sx_lenOk i hi).2
      rw [nI_clamp (Nat.lt_trans hn (sx_lenOk i hi).2)] at h3
      exact x_263 hA hq hi hn h3
    · cases e2
  · unfold F_J0_checkIndex_df160 at h2
    split at h2
    · next e3 => exact x_264 hA hq e3.1 e3.2 h3
    · cases h2
  · unfold F_J6_getChars_ba4f3 at h2
    split at h2
    · next e3 =>
      obtain ⟨n, hn31, rfl⟩ := nI_of (Int32.not_lt.mpr e3.1)
      have hn : n < 10 := (nI_ltI hn31 (by decide)).mp e3.2
      obtain ⟨h9, e4, e5⟩ := Option.bind_eq_some_iff.mp h2
      cases e5
      exact x_256a hty hA hX (va_D21 hD) IH hn e4 h3
    · split at h2
      · next e3 =>
        obtain ⟨n, hn31, rfl⟩ := nI_of (Int32.not_lt.mpr (Int32.le_trans (by decide) e3.1))
        have hn : n < 100 := (nI_ltI hn31 (by decide)).mp e3.2
        have hn1 : 10 ≤ n := (nI_leI (by decide) hn31).mp e3.1
        obtain ⟨h9, e4, e5⟩ := Option.bind_eq_some_iff.mp h2
        obtain ⟨h10, e6, e7⟩ := Option.bind_eq_some_iff.mp e5
        cases e7
        exact x_256b hty hA hX hD IH hn1 hn e4 e6 h3
      · cases h2
  · exact x_255 hty hA hX hC1 IH h2 h3
  · exact x_247 hty hA hX hC1 IH h2 h4 h5 h6 h8 h3 h7
end EZ
