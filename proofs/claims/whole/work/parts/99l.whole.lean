/-! from the law's entry to its end -/
section WH
variable {b : Nat} {s : State}
theorem st_W (hts : ∀ w ∈ lw_tbl, w.before #[Value.ref b] s = true) : ∀ w ∈ lx_T, w.before #[Value.ref b] s = true := by
  intro w hw
  rcases List.mem_append.mp hw with h | h
  · rcases List.mem_append.mp (mm_good w h).1 with h | h
    · exact hts w h
    · simp only [mm_pw, List.mem_cons, List.not_mem_nil, or_false] at h
      rcases h with rfl | rfl
      · exact st_pr (hts _ st_i7) (hts _ st_p0) (hts _ st_p2) (hts _ st_p4) rfl
      · exact st_pr (hts _ st_i7) (hts _ st_p1) (hts _ st_p3) (hts _ st_p4) rfl
  · exact hts w (lx_good w h).1
theorem st_arr {c : ClassId} {k : Class} {comp : ClassId} {ty : FieldType} (h2 : s.vm.classes[c]? = some k) (h3 : k.kind = Kind.array comp ty) : ArrOfT s c ty := fun N z => ⟨(fun k h => by cases h), k, h2, comp, h3⟩
theorem st_ty (hts : ∀ w ∈ lw_tbl, w.before #[Value.ref b] s = true) : ∃ tys : List (ClassId × FieldType), tys.map (fun q => q.2) = mm_tyl ∧ ∀ (k : Nat) (q : ClassId × FieldType), tys[k]? = some q → ArrOfT s q.1 q.2 ∧ va_RA s q.1 q.2 := by
  have hp : ∀ ty : FieldType, (Cond.arrayClass ty).before #[Value.ref b] s = true → ∃ c, ArrOfT s c ty ∧ s.vm.findClass ("[" ++ ty.toString) = some c := fun ty h => by
    obtain ⟨c, k, comp, h1, h2, h3⟩ := Cond.arrayClass_spec (o := none) (idx := []) h
    exact ⟨c, st_arr h2 h3, h1⟩
  have ho : ∀ C : String, (Cond.arrayOver (.object C)).before #[Value.ref b] s = true → ∃ c, ArrOfT s c (.object C) ∧ va_RA s c (.object C) := fun C h => by
    obtain ⟨comp, c, k, h1, -, h3, h4, h5⟩ := Cond.arrayOver_spec (o := none) (idx := []) h
    exact ⟨c, st_arr h3 h4, k, comp, h3, h4, h1, h5⟩
  obtain ⟨c0, a0, b0⟩ := hp .int (hts _ st_a0)
  obtain ⟨c1, a1, b1⟩ := hp .boolean (hts _ st_a1)
  obtain ⟨c2, a2, b2⟩ := hp .long (hts _ st_a2)
  obtain ⟨c3, a3, b3⟩ := hp .double (hts _ st_a3)
  obtain ⟨c4, a4, b4⟩ := hp .byte (hts _ st_a4)
  obtain ⟨c5, a5, b5⟩ := ho RX0 (hts _ st_a5)
  obtain ⟨c6, a6, b6⟩ := ho RX2 (hts _ st_a6)
  obtain ⟨c7, a7, b7⟩ := ho RX3 (hts _ st_a7)
  obtain ⟨comp, c8, k8, -, -, h3, h4, h5⟩ := arrayOverA_spec (o := none) (idx := []) (hts _ st_a8)
  refine ⟨[(c0, .int), (c1, .boolean), (c2, .long), (c3, .double), (c4, .byte), (c5, .object RX0), (c6, .object RX2), (c7, .object RX3), (c8, .array .int)], rfl, fun k q hk => ?_⟩
  match k, hk with
  | 0, hk => cases hk; exact ⟨a0, b0⟩
  | 1, hk => cases hk; exact ⟨a1, b1⟩
  | 2, hk => cases hk; exact ⟨a2, b2⟩
  | 3, hk => cases hk; exact ⟨a3, b3⟩
  | 4, hk => cases hk; exact ⟨a4, b4⟩
  | 5, hk => cases hk; exact ⟨a5, b5⟩
  | 6, hk => cases hk; exact ⟨a6, b6⟩
  | 7, hk => cases hk; exact ⟨a7, b7⟩
  | 8, hk => cases hk; exact ⟨st_arr h3 h4, h5⟩
  | k + 9, hk => cases hk
theorem st_cl (hts : ∀ w ∈ lw_tbl, w.before #[Value.ref b] s = true) : ∃ (D1 : Nat → ClassId) (D2 : Nat → Nat → Nat), ∀ c, c < 8 → u_Kn s (mm_C c).1 (mm_C c).2.1 (mm_C c).2.2 (D1 c) (D2 c) := by
  have h0 : ∀ c, ∃ q : ClassId × (Nat → Nat), c < 8 → u_Kn s (mm_C c).1 (mm_C c).2.1 (mm_C c).2.2 q.1 q.2 := fun c => by
    by_cases hc : c < 8
    · have hi : ∃ n, (Cond.instantiable (mm_C c).1 n).before #[Value.ref b] s = true := by
        match c, hc with
        | 0, _ => exact ⟨_, hts _ st_i0⟩
        | 1, _ => exact ⟨_, hts _ st_i1⟩
        | 2, _ => exact ⟨_, hts _ st_i2⟩
        | 3, _ => exact ⟨_, hts _ st_i3⟩
        | 4, _ => exact ⟨_, hts _ st_i4⟩
        | 5, _ => exact ⟨_, hts _ st_i5⟩
        | 6, _ => exact ⟨_, hts _ st_i6⟩
        | 7, _ => exact ⟨_, hts _ st_i7⟩
      obtain ⟨n, hi⟩ := hi
      obtain ⟨cC, iS, h⟩ := u_known (ws := mm_W) (fun w hw => st_W hts w (lx_sub w hw)) (mm_yin hc) hi
      exact ⟨(cC, iS), fun _ => h⟩
    · exact ⟨(0, fun _ => 0), fun h => absurd h hc⟩
  obtain ⟨f, hf⟩ := Classical.axiomOfChoice h0
  exact ⟨fun c => (f c).1, fun c => (f c).2, hf⟩
theorem st_str {A : Nat → Prop} (hs : ∀ w ∈ st_F, w.before #[Value.ref b] s = true) (hA : ∀ a : Nat, a < s.heap.size → ¬ A a) : ∃ adK adV : Nat → Nat, vk_S 9 sx_len sx_byt adK adV A s s.heap ∧ ∀ i, i < 9 → (st_tm i).eval #[Value.ref b] s none [] s = some (.ref (adK i)) := by
  have h0 : ∀ i : Nat, ∃ q : Nat × Nat, i < 9 → (st_tm i).eval #[Value.ref b] s none [] s = some (.ref q.1) ∧ va_O "java/lang/String" q.1 A s s.heap ∧ va_OF "java/lang/String" "coder" "B" (.int 0) q.1 A s s.heap ∧ va_OF "java/lang/String" "value" "[B" (.ref q.2) q.1 A s s.heap ∧ va_T .byte q.2 (sx_len.getD i 0) (fun j => .int ((sx_byt.getD i []).getD j 0)) A s s.heap := by
    intro i
    by_cases hi : i < 9
    · have hw := fun w hw => hs w (st_s i hi w hw)
      have z : ∀ i' : Nat, i' < 1 → i' = 0 := fun i' h => by omega
      obtain ⟨adK, adV, h1, h2⟩ := vk_Sof (N := 1) (tm := fun _ => st_tm i) (len := [sx_len.getD i 0]) (byt := [sx_byt.getD i []]) (A := A) (fun i' h => by rw [z i' h]; exact st_ln i hi) (fun i' h => hw _ (List.mem_cons_self)) (fun i' h => hw _ (List.mem_cons_of_mem _ List.mem_cons_self)) (fun i' h => hw _ (List.mem_cons_of_mem _ (List.mem_cons_of_mem _ List.mem_cons_self))) (fun i' h => by rw [z i' h]; exact hw _ (List.mem_cons_of_mem _ (List.mem_cons_of_mem _ (List.mem_cons_of_mem _ List.mem_cons_self))))
        (fun i' h j hj => by
          rw [z i' h] at hj ⊢
          exact hw _ (List.mem_cons_of_mem _ (List.mem_cons_of_mem _ (List.mem_cons_of_mem _ (List.mem_cons_of_mem _ (List.mem_map.mpr ⟨j, List.mem_range.mpr hj, rfl⟩)))))) (fun i' j' h h' hne => absurd ((z i' h).trans (z j' h').symm) hne) hA
      obtain ⟨g1, g2, g3, g4⟩ := h1.1 0 (by decide)
      exact ⟨(adK 0, adV 0), fun _ => ⟨h2 0 (by decide), g1, g2, g3, g4⟩⟩
    · exact ⟨(0, 0), fun h => absurd h hi⟩
  obtain ⟨ad, had⟩ := Classical.axiomOfChoice h0
  refine ⟨fun i => (ad i).1, fun i => (ad i).2, ⟨fun i hi => (had i hi).2, fun i j hi hj e => ?_⟩, fun i hi => (had i hi).1⟩
  by_cases hij : i = j
  · exact hij
  exfalso
  obtain ⟨-, -, -, ⟨cf, k, fi, f, cell, f1, -, f3, -, f5, -⟩, ⟨ar, t1, -, -, -, t5, t6, -⟩⟩ := had i hi
  obtain ⟨-, -, -, ⟨cf', k', fi', f', cell', f1', -, f3', -, f5', -⟩, ⟨ar', t1', -, -, -, t5', t6', -⟩⟩ := had j hj
  have e' : (ad i).1 = (ad j).1 := e
  rw [f1] at f1'
  cases f1'
  rw [e', f3'] at f3
  cases f3
  rw [f5] at f5'
  have ev : (ad i).2 = (ad j).2 := Value.ref.inj (Option.some.inj f5')
  rw [ev, t1'] at t1
  cases t1
  rw [t5] at t5'
  have el : sx_len.getD i 0 = sx_len.getD j 0 := (nI_eq (st_ln i hi) (st_ln j hj)).mp t5'
  rcases st_dist i hi j hj hij with h | ⟨k, -, k1, k2, k3⟩
  · exact h el
  · have := (t6 k k1).symm.trans (t6' k k2)
    exact k3 (Value.int.inj (Option.some.inj this))
theorem st_dig {A : Nat → Prop} {nm : String} {g : Nat → Nat} (hl : (Cond.laysStatic "java/lang/Integer" nm "[B").before #[Value.ref b] s = true) (hi : (Cond.initialized "java/lang/Integer").before #[Value.ref b] s = true) (ha : (Cond.arrayOf (.static "java/lang/Integer" nm "[B") .byte).before #[Value.ref b] s = true) (hn : (Cond.eq (.length (.static "java/lang/Integer" nm "[B")) (.int 100)).before #[Value.ref b] s = true)
    (he : ∀ j, j < 100 → (Cond.eq (.elem (.static "java/lang/Integer" nm "[B") (.int (Int32.ofNat j))) (.int (nI (g j)))).before #[Value.ref b] s = true) (hA : ∀ a : Nat, a < s.heap.size → ¬ A a) : ∃ t : Nat, va_Z "java/lang/Integer" nm "[B" (.ref t) A s s.heap ∧ va_T .byte t 100 (fun j => .int (nI (g j))) A s s.heap := by
  obtain ⟨t, ht, hT⟩ := va_Tof (N := 100) (f := fun j => .int (nI (g j))) (A := A) (by decide) ha (va_eqt hn) (fun j hj => va_eqt (he j hj)) hA
  exact ⟨t, va_Zof hl hi ht hA, hT⟩
theorem st_all (hts : ∀ w ∈ lw_tbl, w.before #[Value.ref b] s = true) (hs : ∀ w ∈ st_F, w.before #[Value.ref b] s = true) : ∃ (D : va_G) (tys : List (ClassId × FieldType)), tys.map (fun q => q.2) = mm_tyl ∧ va_K D mm_cl tys s ∧ Am_ D s.heap.size s s.heap := by
  have hA : ∀ a : Nat, a < s.heap.size → ¬ mm_A s.heap.size a := fun a h z => absurd z (Nat.not_le.mpr h)
  obtain ⟨tys, hty, hK2⟩ := st_ty hts
  obtain ⟨D1, D2, hD⟩ := st_cl hts
  obtain ⟨adK, adV, hS, hev⟩ := st_str (A := mm_A s.heap.size) hs hA
  have e0 : ∀ c, c < 8 → (fun i => if i < 8 then D1 i else if i < 200 then adK (i - 100) else adV (i - 200)) c = D1 c := fun c hc => if_pos hc
  have e1 : ∀ i, i < 9 → (fun i => if i < 8 then D1 i else if i < 200 then adK (i - 100) else adV (i - 200)) (100 + i) = adK i := fun i hi => (if_neg (by omega)).trans ((if_pos (by omega)).trans (by rw [Nat.add_sub_cancel_left]))
  have e2 : ∀ i, (fun i => if i < 8 then D1 i else if i < 200 then adK (i - 100) else adV (i - 200)) (200 + i) = adV i := fun i => (if_neg (by omega)).trans ((if_neg (by omega)).trans (by rw [Nat.add_sub_cancel_left]))
  generalize (fun i => if i < 8 then D1 i else if i < 200 then adK (i - 100) else adV (i - 200)) = E at e0 e1 e2
  obtain ⟨t1, z1, y1⟩ := st_dig (A := mm_A s.heap.size) (g := fun j => j % 10 + 48) (hts _ st_t4) (hts _ st_t6) (hs _ st_n4) (hs _ st_n6) (fun j hj => hs _ (st_d1 j hj)) hA
  obtain ⟨t2, z2, y2⟩ := st_dig (A := mm_A s.heap.size) (g := fun j => j / 10 + 48) (hts _ st_t5) (hts _ st_t6) (hs _ st_n5) (hs _ st_n7) (fun j hj => hs _ (st_d2 j hj)) hA
  refine ⟨(E, D2), tys, hty, ⟨fun c q hq => ?_, hK2⟩, ?_⟩
  · have hc : c < 8 := (List.getElem?_eq_some_iff.mp hq).1
    have eq : q = mm_C c := Option.some.inj (hq.symm.trans (mm_cl_at hc))
    subst eq
    show u_Kn s _ _ _ (E c) (D2 c)
    rw [e0 c hc]
    exact hD c hc
  · refine ⟨va_Zof (hts _ st_t0) (hts _ st_t1) (va_eqi (hs _ st_n0)) hA, va_Zqof (hts _ st_t2) (hts _ st_t3) (hs _ st_n1) hA, ⟨fun i hi => ?_, fun i j hi hj e => ?_⟩, fun i hi => ⟨st_ot.getD i "", ?_⟩, ⟨t1, _, t2, _, z1, y1, z2, y2, fun n _ => ⟨rfl, rfl⟩⟩, fun a ha => ?_, vx_Zqof (hts _ st_t7) (hts _ st_t9) (hs _ st_n2) hA, vx_Zqof (hts _ st_t8) (hts _ st_t9) (hs _ st_n3) hA, fun w hw => va_Nw.of (st_on w hw) (hts w (am_in w hw)), fun q hq => va_Nc.of (hs _ (st_am q hq)), va_AO.of (hts _ st_a5), va_AO.of (hts _ st_a6), va_AO.of (hts _ st_a7), hts _ st_a8⟩
    · have := hS.1 i hi
      show va_O "java/lang/String" (E (100 + i)) _ _ _ ∧ va_OF "java/lang/String" "coder" "B" (.int 0) (E (100 + i)) _ _ _ ∧ va_OF "java/lang/String" "value" "[B" (.ref (E (200 + i))) (E (100 + i)) _ _ _ ∧ va_T .byte (E (200 + i)) _ _ _ _ _
      rw [e1 i hi, e2 i]
      exact this
    · have e9 : E (100 + i) = E (100 + j) := e
      rw [e1 i hi, e1 j hj] at e9
      exact hS.2 i j hi hj e9
    · show vk_R RX1 _ _ (E (100 + i)) s
      rw [e1 i hi]
      exact vk_R.of (hts _ (st_or i hi)) (A := #[Value.ref b]) (hev i hi)
    · obtain ⟨sa, c, cA, kA, q1, -⟩ := Cond.exactly_spec (args := #[Value.ref b]) (first := s) (o := none) (s := s) (idx := []) (t := .string RX5 (mm_th a).2.2.1) (cls := "java/lang/String") (hs _ (st_ex a ha))
      exact ⟨st_tx.getD a "", sa, vk_R.of (A := #[Value.ref b]) (hts _ (st_sr a ha)) q1⟩
end WH
