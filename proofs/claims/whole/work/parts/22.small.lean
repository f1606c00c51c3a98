/-! small methods, in any state -/
theorem c92 (X : Nat × (Nat → Int32)) (d : Nat) {S : am_S} {o : Nat} {fs : List Value} {x : Int32} (h : am_get S o = some (.inr (10, fs))) (h0 : fs[0]? = some (.int x)) :
    ev X (d + 1) 92 [.ref o] S (fun r => r = (.inl (some (.int x)), S)) := by
  refine ev_wp (L0 := [some (.ref o)]) (Nat.le_of_ble_eq_true rfl) rfl ?_
  repeat' (first
    | refine wp_iret rfl rfl rfl ?_
    | refine wp_iret rfl rfl (by decide) ?_
    | refine wp_lret rfl rfl ?_
    | refine wp_vret rfl rfl ?_
    | refine wp_thr rfl (by decide) ?_
    | refine wp_if_t rfl (by decide) ?_
    | refine wp_if_f rfl (by decide) ?_
    | refine wp_if rfl (fun _ => ?_) (fun _ => ?_)
    | refine wp_icmp_t rfl (by decide) ?_
    | refine wp_icmp_f rfl (by decide) ?_
    | refine wp_icmp rfl (fun _ => ?_) (fun _ => ?_)
    | refine wp_getf rfl (by assumption) (by first | assumption | rfl) ?_
    | refine wp_putf rfl (by assumption) (by assumption) rfl rfl ?_
    | refine wp_ald rfl (by simp) (by assumption) (by assumption) (by assumption) ?_
    | refine wp_lald rfl (by assumption) (by assumption) (by assumption) ?_
    | refine wp_step rfl rfl ?_)
  all_goals rfl

theorem c88 (X : Nat × (Nat → Int32)) (d : Nat) {S : am_S} {o rc : Nat} {fs gs : List Value} {e n : Int32} (h : am_get S o = some (.inr (9, fs))) (h2 : fs[2]? = some (.ref rc)) (hr : am_get S rc = some (.inr (4, gs))) (h3 : gs[3]? = some (.int n)) :
    ev X (d + 1) 88 [.ref o, .int e] S (fun r => r = if e < 0 ∨ n ≤ e then (.inr "java/lang/IndexOutOfBoundsException", am_thrown S) else (.inl none, S)) := by
  refine ev_wp (L0 := [some (.ref o), some (.int e)]) (Nat.le_of_ble_eq_true rfl) rfl ?_
  repeat' (first
    | refine wp_iret rfl rfl rfl ?_
    | refine wp_iret rfl rfl (by decide) ?_
    | refine wp_lret rfl rfl ?_
    | refine wp_vret rfl rfl ?_
    | refine wp_thr rfl (by decide) ?_
    | refine wp_if_t rfl (by decide) ?_
    | refine wp_if_f rfl (by decide) ?_
    | refine wp_if rfl (fun _ => ?_) (fun _ => ?_)
    | refine wp_icmp_t rfl (by decide) ?_
    | refine wp_icmp_f rfl (by decide) ?_
    | refine wp_icmp rfl (fun _ => ?_) (fun _ => ?_)
    | refine wp_getf rfl (by assumption) (by first | assumption | rfl) ?_
    | refine wp_putf rfl (by assumption) (by assumption) rfl rfl ?_
    | refine wp_ald rfl (by simp) (by assumption) (by assumption) (by assumption) ?_
    | refine wp_lald rfl (by assumption) (by assumption) (by assumption) ?_
    | refine wp_step rfl rfl ?_)
  all_goals simp_all [am_c1, am_c2, am_exc, Int32.not_le, Int32.not_lt]

theorem c93 (X : Nat × (Nat → Int32)) (d : Nat) {S : am_S} {o : Nat} {fs : List Value} {e : Int32} (h : am_get S o = some (.inr (10, fs))) (hb : 0 < fs.length) :
    ev X (d + 1) 93 [.ref o, .int e] S (fun r => r = (.inl (some (.int 0)), am_upd S o (.inr (10, fs.set 0 (.int e))))) := by
  refine ev_wp (L0 := [some (.ref o), some (.int e)]) (Nat.le_of_ble_eq_true rfl) rfl ?_
  repeat' (first
    | refine wp_iret rfl rfl rfl ?_
    | refine wp_iret rfl rfl (by decide) ?_
    | refine wp_lret rfl rfl ?_
    | refine wp_vret rfl rfl ?_
    | refine wp_thr rfl (by decide) ?_
    | refine wp_if_t rfl (by decide) ?_
    | refine wp_if_f rfl (by decide) ?_
    | refine wp_if rfl (fun _ => ?_) (fun _ => ?_)
    | refine wp_icmp_t rfl (by decide) ?_
    | refine wp_icmp_f rfl (by decide) ?_
    | refine wp_icmp rfl (fun _ => ?_) (fun _ => ?_)
    | refine wp_getf rfl (by assumption) (by first | assumption | rfl) ?_
    | refine wp_putf rfl (by assumption) (by assumption) rfl rfl ?_
    | refine wp_ald rfl (by simp) (by assumption) (by assumption) (by assumption) ?_
    | refine wp_lald rfl (by assumption) (by assumption) (by assumption) ?_
    | refine wp_step rfl rfl ?_)
  all_goals rfl

theorem c12 (X : Nat × (Nat → Int32)) (d : Nat) {S : am_S} {o : Nat} {e : Int32} :
    ev X (d + 1) 12 [.ref o, .int e] S (fun r => r = (.inl (some (.int (if 2 ≤ e ∧ e ≤ 10 then 1 else 0))), S)) := by
  refine ev_wp (L0 := [some (.ref o), some (.int e)]) (Nat.le_of_ble_eq_true rfl) rfl ?_
  repeat' (first
    | refine wp_iret rfl rfl rfl ?_
    | refine wp_iret rfl rfl (by decide) ?_
    | refine wp_lret rfl rfl ?_
    | refine wp_vret rfl rfl ?_
    | refine wp_thr rfl (by decide) ?_
    | refine wp_if_t rfl (by decide) ?_
    | refine wp_if_f rfl (by decide) ?_
    | refine wp_if rfl (fun _ => ?_) (fun _ => ?_)
    | refine wp_icmp_t rfl (by decide) ?_
    | refine wp_icmp_f rfl (by decide) ?_
    | refine wp_icmp rfl (fun _ => ?_) (fun _ => ?_)
    | refine wp_getf rfl (by assumption) (by first | assumption | rfl) ?_
    | refine wp_putf rfl (by assumption) (by assumption) rfl rfl ?_
    | refine wp_ald rfl (by simp) (by assumption) (by assumption) (by assumption) ?_
    | refine wp_lald rfl (by assumption) (by assumption) (by assumption) ?_
    | refine wp_step rfl rfl ?_)
  all_goals simp_all [am_c1, am_c2, am_exc, Int32.not_le, Int32.not_lt]

theorem c40 (X : Nat × (Nat → Int32)) (d : Nat) {S : am_S} {o v kn n : Nat} {fs gs : List Value} {f : Nat → Int32} {e : Int32} (h : am_get S o = some (.inr (4, fs))) (h2 : fs[2]? = some (.ref v)) (hv : am_get S v = some (.inr (8, gs))) (h3 : gs[1]? = some (.ref kn)) (hlt : kn < 1000000) (hk : am_get S kn = some (.inl (0, n, .inl f))) (hin : e ≠ -1 → am_in e n = true) :
    ev X (d + 1) 40 [.ref o, .int e] S (fun r => r = (.inl (some (.int (if e ≠ -1 ∧ f e.toNatClampNeg = 13 then 1 else 0))), S)) := by
  refine ev_wp (L0 := [some (.ref o), some (.int e)]) (Nat.le_of_ble_eq_true rfl) rfl ?_
  repeat' (first
    | refine wp_iret rfl rfl rfl ?_
    | refine wp_iret rfl rfl (by decide) ?_
    | refine wp_lret rfl rfl ?_
    | refine wp_vret rfl rfl ?_
    | refine wp_thr rfl (by decide) ?_
    | refine wp_if_t rfl (by decide) ?_
    | refine wp_if_f rfl (by decide) ?_
    | refine wp_if rfl (fun _ => ?_) (fun _ => ?_)
    | refine wp_icmp_t rfl (by decide) ?_
    | refine wp_icmp_f rfl (by decide) ?_
    | refine wp_icmp rfl (fun _ => ?_) (fun _ => ?_)
    | refine wp_getf rfl (by assumption) (by first | assumption | rfl) ?_
    | refine wp_putf rfl (by assumption) (by assumption) rfl rfl ?_
    | refine wp_ald rfl (by simp) (by assumption) (by assumption) (by assumption) ?_
    | refine wp_lald rfl (by assumption) (by assumption) (by assumption) ?_
    | refine wp_step rfl rfl ?_)
  all_goals simp_all [am_c1, am_c2, am_exc, Int32.not_le, Int32.not_lt]

theorem c76 (X : Nat × (Nat → Int32)) (d : Nat) {S : am_S} {o rc : Nat} {fs gs : List Value} {n : Int32} (h : am_get S o = some (.inr (9, fs))) (h2 : fs[2]? = some (.ref rc)) (hr : am_get S rc = some (.inr (4, gs))) (h3 : gs[0]? = some (.int n)) :
    ev X (d + 1) 76 [.ref o] S (fun r => r = (.inl (some (.int n)), S)) := by
  refine ev_wp (L0 := [some (.ref o)]) (Nat.le_of_ble_eq_true rfl) rfl ?_
  repeat' (first
    | refine wp_iret rfl rfl rfl ?_
    | refine wp_iret rfl rfl (by decide) ?_
    | refine wp_lret rfl rfl ?_
    | refine wp_vret rfl rfl ?_
    | refine wp_thr rfl (by decide) ?_
    | refine wp_if_t rfl (by decide) ?_
    | refine wp_if_f rfl (by decide) ?_
    | refine wp_if rfl (fun _ => ?_) (fun _ => ?_)
    | refine wp_icmp_t rfl (by decide) ?_
    | refine wp_icmp_f rfl (by decide) ?_
    | refine wp_icmp rfl (fun _ => ?_) (fun _ => ?_)
    | refine wp_getf rfl (by assumption) (by first | assumption | rfl) ?_
    | refine wp_putf rfl (by assumption) (by assumption) rfl rfl ?_
    | refine wp_ald rfl (by simp) (by assumption) (by assumption) (by assumption) ?_
    | refine wp_lald rfl (by assumption) (by assumption) (by assumption) ?_
    | refine wp_step rfl rfl ?_)
  all_goals rfl

theorem c83 (X : Nat × (Nat → Int32)) (d : Nat) {S : am_S} {o : Nat} {fs : List Value} {n : Int32} (h : am_get S o = some (.inr (9, fs))) (h2 : fs[7]? = some (.int n)) :
    ev X (d + 1) 83 [.ref o] S (fun r => r = (.inl (some (.int n)), S)) := by
  refine ev_wp (L0 := [some (.ref o)]) (Nat.le_of_ble_eq_true rfl) rfl ?_
  repeat' (first
    | refine wp_iret rfl rfl rfl ?_
    | refine wp_iret rfl rfl (by decide) ?_
    | refine wp_lret rfl rfl ?_
    | refine wp_vret rfl rfl ?_
    | refine wp_thr rfl (by decide) ?_
    | refine wp_if_t rfl (by decide) ?_
    | refine wp_if_f rfl (by decide) ?_
    | refine wp_if rfl (fun _ => ?_) (fun _ => ?_)
    | refine wp_icmp_t rfl (by decide) ?_
    | refine wp_icmp_f rfl (by decide) ?_
    | refine wp_icmp rfl (fun _ => ?_) (fun _ => ?_)
    | refine wp_getf rfl (by assumption) (by first | assumption | rfl) ?_
    | refine wp_putf rfl (by assumption) (by assumption) rfl rfl ?_
    | refine wp_ald rfl (by simp) (by assumption) (by assumption) (by assumption) ?_
    | refine wp_lald rfl (by assumption) (by assumption) (by assumption) ?_
    | refine wp_step rfl rfl ?_)
  all_goals rfl

theorem c75 (X : Nat × (Nat → Int32)) (d : Nat) {S : am_S} {o so : Nat} {fs gs : List Value} {e a b : Int32} (h : am_get S o = some (.inr (9, fs))) (h2 : fs[0]? = some (.ref so)) (hr : am_get S so = some (.inr (5, gs))) (h3 : gs[6]? = some (.int a)) (h4 : gs[7]? = some (.int b)) :
    ev X (d + 1) 75 [.ref o, .int e] S (fun r => r = (.inl (some (.int (if e = 0 then a else if e = 1 then b else -1))), S)) := by
  refine ev_wp (L0 := [some (.ref o), some (.int e)]) (Nat.le_of_ble_eq_true rfl) rfl ?_
  repeat' (first
    | refine wp_iret rfl rfl rfl ?_
    | refine wp_iret rfl rfl (by decide) ?_
    | refine wp_lret rfl rfl ?_
    | refine wp_vret rfl rfl ?_
    | refine wp_thr rfl (by decide) ?_
    | refine wp_if_t rfl (by decide) ?_
    | refine wp_if_f rfl (by decide) ?_
    | refine wp_if rfl (fun _ => ?_) (fun _ => ?_)
    | refine wp_icmp_t rfl (by decide) ?_
    | refine wp_icmp_f rfl (by decide) ?_
    | refine wp_icmp rfl (fun _ => ?_) (fun _ => ?_)
    | refine wp_getf rfl (by assumption) (by first | assumption | rfl) ?_
    | refine wp_putf rfl (by assumption) (by assumption) rfl rfl ?_
    | refine wp_ald rfl (by simp) (by assumption) (by assumption) (by assumption) ?_
    | refine wp_lald rfl (by assumption) (by assumption) (by assumption) ?_
    | refine wp_step rfl rfl ?_)
  all_goals simp_all [am_c1, am_c2, am_exc, Int32.not_le, Int32.not_lt]

theorem c164 (X : Nat × (Nat → Int32)) (d : Nat) {S : am_S} {e g : Int32} :
    ev X (d + 1) 164 [.int e, .int g] S (fun r => r = (.inl (some (.int (if g ≤ e then e else g))), S)) := by
  refine ev_wp (L0 := [some (.int e), some (.int g)]) (Nat.le_of_ble_eq_true rfl) rfl ?_
  repeat' (first
    | refine wp_iret rfl rfl rfl ?_
    | refine wp_iret rfl rfl (by decide) ?_
    | refine wp_lret rfl rfl ?_
    | refine wp_vret rfl rfl ?_
    | refine wp_thr rfl (by decide) ?_
    | refine wp_if_t rfl (by decide) ?_
    | refine wp_if_f rfl (by decide) ?_
    | refine wp_if rfl (fun _ => ?_) (fun _ => ?_)
    | refine wp_icmp_t rfl (by decide) ?_
    | refine wp_icmp_f rfl (by decide) ?_
    | refine wp_icmp rfl (fun _ => ?_) (fun _ => ?_)
    | refine wp_getf rfl (by assumption) (by first | assumption | rfl) ?_
    | refine wp_putf rfl (by assumption) (by assumption) rfl rfl ?_
    | refine wp_ald rfl (by simp) (by assumption) (by assumption) (by assumption) ?_
    | refine wp_lald rfl (by assumption) (by assumption) (by assumption) ?_
    | refine wp_step rfl rfl ?_)
  all_goals simp_all [am_c1, am_c2, am_exc, Int32.not_le, Int32.not_lt]
