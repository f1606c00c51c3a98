/-! one step of the small machine is one of the machine: instructions that read or change the heap -/
theorem am_uws0 : ∀ w ∈ u_ws RX0 TX0 9, w ∈ am_gw := by decide +kernel
theorem am_uws1 : ∀ w ∈ u_ws RX1 TX1 10, w ∈ am_gw := by decide +kernel
theorem am_uws2 : ∀ w ∈ u_ws RX2 TX2 12, w ∈ am_gw := by decide +kernel
theorem am_uws3 : ∀ w ∈ u_ws RX3 TX3 7, w ∈ am_gw := by decide +kernel
theorem am_uws4 : ∀ w ∈ u_ws RX4 TX4 7, w ∈ am_gw := by decide +kernel
theorem am_uws5 : ∀ w ∈ u_ws RX5 TX5 8, w ∈ am_gw := by decide +kernel
theorem am_uws6 : ∀ w ∈ u_ws RX6 TX6 2, w ∈ am_gw := by decide +kernel
theorem am_uws7 : ∀ w ∈ u_ws RX7 TX7 7, w ∈ am_gw := by decide +kernel
theorem am_uws8 : ∀ w ∈ u_ws RX8 TX8 7, w ∈ am_gw := by decide +kernel
theorem am_uws9 : ∀ w ∈ u_ws RX9 TX9 10, w ∈ am_gw := by decide +kernel
theorem am_uws10 : ∀ w ∈ u_ws RX10 TX10 58, w ∈ am_gw := by decide +kernel
/-- what the tables and the names say of each class -/
theorem am_cls {ci : Nat} {q : vw_C} (h : vwCl[ci]? = some q) : (∀ w ∈ u_ws q.1 q.2.1 q.2.2, w ∈ am_gw) ∧ (∀ k, k < q.2.2 → parseFieldDescriptor (q.2.1 k).2.2.1 = some (am_fty ci k)) ∧ (∀ a, a < q.2.2 → ∀ b, b < q.2.2 → a ≠ b → (q.2.1 a).2.1 ≠ (q.2.1 b).2.1) ∧ q.2.2 = am_cn ci ∧ ci < 11 := by
  match ci, h with
  | 0, h => cases h; exact ⟨am_uws0, tyX0_ok, nmX0, rfl, by decide⟩
  | 1, h => cases h; exact ⟨am_uws1, tyX1_ok, nmX1, rfl, by decide⟩
  | 2, h => cases h; exact ⟨am_uws2, tyX2_ok, nmX2, rfl, by decide⟩
  | 3, h => cases h; exact ⟨am_uws3, tyX3_ok, nmX3, rfl, by decide⟩
  | 4, h => cases h; exact ⟨am_uws4, tyX4_ok, nmX4, rfl, by decide⟩
  | 5, h => cases h; exact ⟨am_uws5, tyX5_ok, nmX5, rfl, by decide⟩
  | 6, h => cases h; exact ⟨am_uws6, tyX6_ok, nmX6, rfl, by decide⟩
  | 7, h => cases h; exact ⟨am_uws7, tyX7_ok, nmX7, rfl, by decide⟩
  | 8, h => cases h; exact ⟨am_uws8, tyX8_ok, nmX8, rfl, by decide⟩
  | 9, h => cases h; exact ⟨am_uws9, tyX9_ok, nmX9, rfl, by decide⟩
  | 10, h => cases h; exact ⟨am_uws10, tyX10_ok, nmX10, rfl, by decide⟩
  | k + 11, h => simp [vwCl] at h
theorem am_in_vp {j : Int32} {n : Nat} (h : am_in j n = true) : vp_in j n := by
  unfold am_in at h
  have h1 := of_decide_eq_true h
  exact h1
theorem am_get_inv {S : am_S} {o : Nat} {x : am_C} (h : am_get S o = some x) : o < S.1 ∧ S.2.1 o = x := by
  unfold am_get at h
  split at h
  · rename_i hlt
    exact ⟨hlt, Option.some.inj h⟩
  · cases h
theorem am_v_rf (G : am_G) (r : Option Nat) : am_v G (va_rf r) = va_rf (r.map (am_ad G)) := by cases r <;> rfl
theorem am_v_narrow {G : am_G} {ty : FieldType} {v : Value} (h : narrow ty v = v) : narrow ty (am_v G v) = am_v G v := by
  cases v <;> first | exact h | (cases ty <;> rfl)
theorem am_v_fits {G : am_G} {ty : FieldType} {v : Value} (h : fits ty v = true) : fits ty (am_v G v) = true := by
  cases v <;> first | exact h | (cases ty <;> first | rfl | exact h)
theorem am_v_def (G : am_G) (ty : FieldType) : am_v G (defaultValue ty) = defaultValue ty := by cases ty <;> rfl
theorem am_tys_at (G : am_G) {t : Nat} (h : t < 6) : (am_tys G)[t]? = some (G.2.1 t, am_ty t) := by simp [am_tys, h]
theorem am_oi1 : Cond.instanceMethod objectInit ∈ am_gw := by decide +kernel
theorem am_oi2 : Cond.code objectInit ⟨#[0xb1]⟩ 1 none ∈ am_gw := by decide +kernel
theorem am_ini {ci : Nat} {q : vw_C} (h : vwCl[ci]? = some q) : Cond.initialized q.1 ∈ am_gw ∧ Cond.instantiable q.1 q.2.2 ∈ am_gw := by
  match ci, h with
  | 0, h => cases h; exact ⟨by decide +kernel, by decide +kernel⟩
  | 1, h => cases h; exact ⟨by decide +kernel, by decide +kernel⟩
  | 2, h => cases h; exact ⟨by decide +kernel, by decide +kernel⟩
  | 3, h => cases h; exact ⟨by decide +kernel, by decide +kernel⟩
  | 4, h => cases h; exact ⟨by decide +kernel, by decide +kernel⟩
  | 5, h => cases h; exact ⟨by decide +kernel, by decide +kernel⟩
  | 6, h => cases h; exact ⟨by decide +kernel, by decide +kernel⟩
  | 7, h => cases h; exact ⟨by decide +kernel, by decide +kernel⟩
  | 8, h => cases h; exact ⟨by decide +kernel, by decide +kernel⟩
  | 9, h => cases h; exact ⟨by decide +kernel, by decide +kernel⟩
  | 10, h => cases h; exact ⟨by decide +kernel, by decide +kernel⟩
  | k + 11, h => simp [vwCl] at h
theorem am_acls : Cond.arrayClass .int ∈ am_gw ∧ Cond.arrayClass .long ∈ am_gw ∧ Cond.arrayClass .byte ∈ am_gw ∧ Cond.arrayClass .char ∈ am_gw := ⟨by decide +kernel, by decide +kernel, by decide +kernel, by decide +kernel⟩
theorem am_blank_V {ci : Nat} : ∀ j, j < am_cn ci → defaultValue (am_fty ci j) = vp_V (am_blank ci) j := by
  intro j hj
  simp [vp_V, am_blank, hj]
theorem am_blank_v (G : am_G) (ci : Nat) : (am_blank ci).map (am_v G) = am_blank ci := by
  unfold am_blank
  rw [List.map_map]
  exact List.map_congr_left fun k _ => am_v_def G _
/-- the number of a new cell -/
theorem am_fresh {G : am_G} {S : am_S} {q : Nat} {x : va_E} {H1 : Heap} {z : Nat} (hP : va_P G.1 vwCl (am_ws G S ++ [(q, x)]) H1) (hD : va_D (am_A G) (am_ws G S ++ [(q, x)])) (hz : H1.size ≤ z) (h : z ≤ am_b0 G + S.1 + 1) : q = am_b0 G + S.1 := by
  have hq : (am_ws G S ++ [(q, x)])[S.1]? = some (q, x) := by
    rw [List.getElem?_append_right (by rw [am_ws_len]; exact Nat.le_refl _), am_ws_len, Nat.sub_self]
    rfl
  have h1 : q < H1.size := (hP _ _ hq).lt
  have h2 : am_b0 G ≤ q := hD.2 _ _ hq
  have h3 : ¬ q < am_b0 G + S.1 := by
    intro h4
    have h5 : q - am_b0 G < S.1 := by omega
    have h6 := hD.1 (q - am_b0 G) S.1 _ _ (by rw [List.getElem?_append_left (by rw [am_ws_len]; exact h5)]; exact am_ws_at h5) hq (show am_b0 G + (q - am_b0 G) = q by omega)
    omega
  omega
