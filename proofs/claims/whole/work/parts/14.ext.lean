/-! what the methods that are not run by the little machine answer -/
def fx_texts : List (List Nat) := [[98, 117, 105, 108, 100, 32, 35, 35, 32, 35], [116, 101, 97, 114, 32, 35], [104, 97, 108, 118, 101, 32, 35], [108, 101, 97, 115, 101, 32, 35, 32, 35, 32, 35], [99, 108, 105, 109, 98, 32, 35, 32, 35], [108, 101, 118, 121, 32, 35, 32, 35], [116, 97, 107, 101, 32, 35], [102, 114, 101, 101, 32, 35, 32, 35], [100, 97, 121]]
def fx_tx (i : Nat) : List Nat := fx_texts.getD i []
def fx_ix (S : Nat → Nat) (q : Nat) : Option Nat := (List.range 9).find? (fun i => S i == q)
def F_X1_formOf (S : Nat → Nat) (_ : mm_S) (x : Int32) : Option Nat := some (S (if x.toInt < 0 ∨ 7 < x.toInt then 8 else x.toInt.toNat))
def F_J0_length_8abf5 (S : Nat → Nat) (_ : mm_S) (q : Nat) : Option Int32 := (fx_ix S q).bind fun i => some (nI (fx_tx i).length)
def F_J0_charAt_5068e (S : Nat → Nat) (_ : mm_S) (q : Nat) (j : Int32) : Option Int32 := (fx_ix S q).bind fun i => if fx_in j (fx_tx i).length = true then some (nI ((fx_tx i).getD j.toNatClampNeg 0)) else none
def F_J0_checkIndex_df160 (_ : Nat → Nat) (_ : mm_S) (j n : Int32) : Option Unit := if ¬ j < 0 ∧ j < n then some () else none
def F_J5_isLatin1_aae02 (_ : Nat → Nat) (h : mm_S) (q : Nat) : Option Int32 := (fx_obj h q 7).bind fun fs => match (fs[1]? : Option Value) with
  | some (Value.int x) => if x = 0 then some (ki 1) else none
  | _ => none
def F_J6_getChars_ba4f3 (_ : Nat → Nat) (h : mm_S) (x j : Int32) (q : Nat) : Option (Int32 × mm_S) := if 0 ≤ x ∧ x < 10 then (fx_sB h q (j - 1) (x + 48)).bind fun h2 => some (j - 1, h2)
  else if 10 ≤ x ∧ x < 100 then (fx_sB h q (j - 1) (x - x / 10 * 10 + 48)).bind fun h2 => (fx_sB h2 q (j - 1 - 1) (x / 10 + 48)).bind fun h3 => some (j - 1 - 1, h3)
  else none
/-- the contracts of the methods that are not run -/
def mm_Xc (S : Nat → Nat) : mm_Cl := fun y c k args h Q =>
  (y = 3 ∧ ∃ x v, args = [.int x] ∧ F_X1_formOf S h x = some v ∧ Q (.inl (some (.ref v)), h)) ∨
  (y = 262 ∧ ∃ q v, args = [.ref q] ∧ F_J0_length_8abf5 S h q = some v ∧ Q (.inl (some (.int v)), h)) ∨
  (y = 263 ∧ ∃ q j v, args = [.ref q, .int j] ∧ F_J0_charAt_5068e S h q j = some v ∧ Q (.inl (some (.int v)), h)) ∨
  (y = 264 ∧ ∃ j n v, args = [.int j, .int n] ∧ F_J0_checkIndex_df160 S h j n = some v ∧ Q (.inl none, h)) ∨
  (y = 256 ∧ ∃ x j q o, args = [.int x, .int j, .ref q] ∧ F_J6_getChars_ba4f3 S h x j q = some o ∧ Q (.inl (some (.int o.1)), o.2)) ∨
  (y = 255 ∧ ∃ q v, args = [.ref q] ∧ F_J5_isLatin1_aae02 S h q = some v ∧ Q (.inl (some (.int v)), h)) ∨
  (y = 247 ∧ ∃ q n fs, args = [.ref q, .int n] ∧ fx_obj h q 7 = some fs ∧ fs.length = 4 ∧ ¬ n < 0 ∧ n.toNatClampNeg ≤ 65536 ∧ 1 ≤ c ∧ n.toNatClampNeg ≤ k ∧ ∀ v : Nat, v ∉ h.1 → h.2 v ≠ .inr (9, []) → Q (.inl none, (h.1 ++ [v], va_up (va_up h.2 v (.inl (4, n.toNatClampNeg, .inl (fun _ => 0)))) q (.inr (7, ((fs.set 0 (.ref v)).set 1 (.int 0)))))))
def mm_XS (S : Nat → Nat) (X : mm_Cl) : Prop := ∀ y c k args h Q, mm_Xc S y c k args h Q → X y c k args h Q
theorem mm_Xc_mono (S : Nat → Nat) : mm_mono (mm_Xc S) := by
  intro y c k args h Q1 Q2 hQ g
  rcases g with ⟨e, x, v, h1, h2, h3⟩ | ⟨e, x, v, h1, h2, h3⟩ | ⟨e, x, j, v, h1, h2, h3⟩ | ⟨e, x, j, v, h1, h2, h3⟩ | ⟨e, x, j, q, o, h1, h2, h3⟩ | ⟨e, x, v, h1, h2, h3⟩ | ⟨e, q, n, fs, h1, h2, h3, h4, h5, h6, h8, h7⟩
  · exact .inl ⟨e, x, v, h1, h2, hQ _ h3⟩
  · exact .inr (.inl ⟨e, x, v, h1, h2, hQ _ h3⟩)
  · exact .inr (.inr (.inl ⟨e, x, j, v, h1, h2, hQ _ h3⟩))
  · exact .inr (.inr (.inr (.inl ⟨e, x, j, v, h1, h2, hQ _ h3⟩)))
  · exact .inr (.inr (.inr (.inr (.inl ⟨e, x, j, q, o, h1, h2, hQ _ h3⟩))))
  · exact .inr (.inr (.inr (.inr (.inr (.inl ⟨e, x, v, h1, h2, hQ _ h3⟩)))))
  · exact .inr (.inr (.inr (.inr (.inr (.inr ⟨e, q, n, fs, h1, h2, h3, h4, h5, h6, h8, fun v hv h9 => hQ _ (h7 v hv h9)⟩)))))
section XS
variable {X : mm_Cl} {S : Nat → Nat} {d c k : Nat} {Q : mm_Re → Prop} {h : mm_S}
theorem mm_Run_x {y : Nat} {args : List Value} (hS : mm_XS S X) (hy : y < 266) (he : y ∈ mm_ext) (hl : (lg_sl args).length ≤ (mm_m y).2.2.2.1) (g : mm_Xc S y c k args h Q) : mm_Run X (d + 1) y c k args h Q := ⟨hy, hl, by rw [if_pos he]; exact hS _ _ _ _ _ _ g⟩
theorem r_X1_formOf (_ : mm_mono X) (hS : mm_XS S X) {x : Int32} {o : Nat} (hF : F_X1_formOf S h x = some o) (hQ : Q (.inl (some (.ref o)), h)) : mm_Run X (d + 1) 3 c k [.int x] h Q :=
  mm_Run_x hS (by decide) (by decide) (Nat.le_of_ble_eq_true rfl) (.inl ⟨rfl, _, _, rfl, hF, hQ⟩)
theorem r_J0_length_8abf5 (_ : mm_mono X) (hS : mm_XS S X) {x : Nat} {o : Int32} (hF : F_J0_length_8abf5 S h x = some o) (hQ : Q (.inl (some (.int o)), h)) : mm_Run X (d + 1) 262 c k [.ref x] h Q :=
  mm_Run_x hS (by decide) (by decide) (Nat.le_of_ble_eq_true rfl) (.inr (.inl ⟨rfl, _, _, rfl, hF, hQ⟩))
theorem r_J0_charAt_5068e (_ : mm_mono X) (hS : mm_XS S X) {x : Nat} {j o : Int32} (hF : F_J0_charAt_5068e S h x j = some o) (hQ : Q (.inl (some (.int o)), h)) : mm_Run X (d + 1) 263 c k [.ref x, .int j] h Q :=
  mm_Run_x hS (by decide) (by decide) (Nat.le_of_ble_eq_true rfl) (.inr (.inr (.inl ⟨rfl, _, _, _, rfl, hF, hQ⟩)))
theorem r_J0_checkIndex_df160 (_ : mm_mono X) (hS : mm_XS S X) {j n : Int32} {o : Unit} (hF : F_J0_checkIndex_df160 S h j n = some o) (hQ : Q (.inl none, h)) : mm_Run X (d + 1) 264 c k [.int j, .int n] h Q :=
  mm_Run_x hS (by decide) (by decide) (Nat.le_of_ble_eq_true rfl) (.inr (.inr (.inr (.inl ⟨rfl, _, _, _, rfl, hF, hQ⟩))))
theorem r_J6_getChars_ba4f3 (_ : mm_mono X) (hS : mm_XS S X) {x j : Int32} {q : Nat} {o : Int32 × mm_S} (hF : F_J6_getChars_ba4f3 S h x j q = some o) (hQ : Q (.inl (some (.int o.1)), o.2)) : mm_Run X (d + 1) 256 c k [.int x, .int j, .ref q] h Q :=
  mm_Run_x hS (by decide) (by decide) (Nat.le_of_ble_eq_true rfl) (.inr (.inr (.inr (.inr (.inl ⟨rfl, _, _, _, _, rfl, hF, hQ⟩)))))
theorem r_J5_isLatin1_aae02 (_ : mm_mono X) (hS : mm_XS S X) {x : Nat} {o : Int32} (hF : F_J5_isLatin1_aae02 S h x = some o) (hQ : Q (.inl (some (.int o)), h)) : mm_Run X (d + 1) 255 c k [.ref x] h Q :=
  mm_Run_x hS (by decide) (by decide) (Nat.le_of_ble_eq_true rfl) (.inr (.inr (.inr (.inr (.inr (.inl ⟨rfl, _, _, rfl, hF, hQ⟩))))))
end XS
