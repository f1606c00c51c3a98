/-! THE MODEL: nanos -/
section MEVENT
variable {X : Nat × (Nat → Int32)} {d : Nat} {Q : am_R → Prop} {S : am_S} {I : Nat → Int32} {st li : Int64} {b : Nat → Nat} {v w tot : Nat} {re : jRe} {M : jMT} {E : jME} {C : jMC} {K : jMK}
theorem q_mlower {x y : Int64} (hy : 0 < y) (hq : Q (.inl (some (.long (fdv x y))), S)) : ev X (d + 1) 129 [.long x, .long y] S Q := by
  refine ev_wp (L0 := [some (.long x), none, some (.long y), none]) (Nat.le_of_ble_eq_true rfl) rfl ?_
  have hy0 : y ≠ 0 := fun e9 => by rw [e9] at hy; exact absurd hy (by decide)
  iterate 2 refine wp_step rfl rfl ?_
  refine wp_ldiv rfl (hy0) ?_
  iterate 2 refine wp_step rfl rfl ?_
  refine wp_lrem rfl (hy0) ?_
  iterate 2 refine wp_step rfl rfl ?_
  refine wp_if rfl (fun c0 => ?_) (fun c0 => ?_)
  · replace c0 := l_ge_t c0
    iterate 2 refine wp_step rfl rfl ?_
    refine wp_lret rfl rfl ?_
    have e9 : fdv x y = x / y - 0 := by unfold fdv; rw [if_neg (show ¬ x - x / y * y < 0 from Int64.not_lt.mpr c0)]
    rw [e9] at hq
    exact hq
  · replace c0 := l_ge_f c0
    iterate 3 refine wp_step rfl rfl ?_
    refine wp_lret rfl rfl ?_
    have e9 : fdv x y = x / y - 1 := by unfold fdv; rw [if_pos (show x - x / y * y < 0 from Int64.not_le.mp c0)]
    rw [e9] at hq
    exact hq
theorem q_mnanos {tk : Int64} {p : Nat} (hb : ∀ j, b j < 256) (h : am_get S 408 = some (moC I st li)) (hB : mBy S b w) (h19 : I 19 = nI w) (hw : w ≤ 1) (hp : p + 20 ≤ 960) (hf0 : 0 < lN (w4 b (p + 16))) (hq : Q (.inl (some (.long (nnx tk (lN (w4 b (p + 12))) (lN (w4 b (p + 16)))))), S)) : ev X (d + 4) 130 [.ref 408, .long tk, .int (nI p)] S Q := by
  refine ev_wp (L0 := [some (.ref 408), some (.long tk), none, some (.int (nI p)), none, none, none, none, none, none, none, none]) (Nat.le_of_ble_eq_true rfl) rfl ?_
  have hy0 : lN (w4 b (p + 16)) ≠ 0 := fun e9 => by rw [e9] at hf0; exact absurd hf0 (by decide)
  iterate 4 refine wp_step rfl rfl ?_
  rw [show nI p + (Int8.ofInt 16).toInt32 = nI (p + 16) from nI_add p 16]
  refine wp_c0 rfl rfl (by decide) rfl (recv_ok h rfl) rfl (q_mfour hb h hB h19 hw (by omega) ?_)
  refine wp_step rfl rfl ?_
  show wp X (d + 3) 130 10 [some (.ref 408), some (.long tk), none, some (.int (nI p)), some (.long (lN (w4 b (p + 16)))), none, none, none, none, none, none, none] [] S Q
  iterate 5 refine wp_step rfl rfl ?_
  rw [show nI p + (Int8.ofInt 12).toInt32 = nI (p + 12) from nI_add p 12]
  refine wp_c0 rfl rfl (by decide) rfl (recv_ok h rfl) rfl (q_mfour hb h hB h19 hw (by omega) ?_)
  iterate 2 refine wp_step rfl rfl ?_
  show wp X (d + 3) 130 22 [some (.ref 408), some (.long tk), none, some (.int (nI p)), some (.long (lN (w4 b (p + 16)))), none, some (.long (tk - lN (w4 b (p + 12)))), none, none, none, none, none] [] S Q
  unfold nnx fmd at hq
  generalize lN (w4 b (p + 16)) = f at hf0 hy0 hq ⊢
  generalize tk - lN (w4 b (p + 12)) = dd at hq ⊢
  iterate 2 refine wp_step rfl rfl ?_
  refine wp_c0 rfl rfl (by decide) rfl rfl rfl (q_mlower hf0 ?_)
  refine wp_step rfl rfl ?_
  show wp X (d + 3) 130 31 [some (.ref 408), some (.long tk), none, some (.int (nI p)), some (.long f), none, some (.long dd), none, some (.long (fdv dd f)), none, none, none] [] S Q
  generalize fdv dd f = wh at hq ⊢
  iterate 6 refine wp_step rfl rfl ?_
  show wp X (d + 3) 130 41 [some (.ref 408), some (.long tk), none, some (.int (nI p)), some (.long f), none, some (.long dd), none, some (.long wh), none, some (.long (dd - wh * f)), none] [] S Q
  generalize dd - wh * f = rs at hq ⊢
  iterate 7 refine wp_step rfl rfl ?_
  refine wp_ldiv rfl (hy0) ?_
  refine wp_step rfl rfl ?_
  refine wp_lret rfl rfl hq
end MEVENT
