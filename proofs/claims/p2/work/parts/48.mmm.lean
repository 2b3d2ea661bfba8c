theorem t_scan_mm (τ : MT) (m : Int32) (km : Nat → Int32) (i : Nat) (x : Int32) : ∀ n k, t_scan (mt_mm τ m km) i x n k = t_scan τ i x n k
  | 0, _ => rfl
  | n + 1, k => by
    rw [t_scan, t_scan, t_scan_mm τ m km i x n (k + 1)]
    rfl
theorem t_idx_mm (τ : MT) (m : Int32) (km : Nat → Int32) (i : Nat) (x : Int32) : t_idx (mt_mm τ m km) i x = t_idx τ i x := t_scan_mm τ m km i x _ 0
theorem t_named_mm (τ : MT) (m : Int32) (km : Nat → Int32) (i : Nat) (x : Int32) : t_named (mt_mm τ m km) i x = t_named τ i x := by
  unfold t_named
  rw [t_idx_mm]
  rfl
