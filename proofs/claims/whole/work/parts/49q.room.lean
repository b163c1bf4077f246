/-- the walk of the law needs 36 + 26 * 512 cells and 13859 + 4225 * 512 slots and what one call adds: any room with so much will do -/
theorem lw_capC : 20000 ≤ room_1.cells := Nat.le_of_ble_eq_true rfl
theorem lw_capS : 3000000 ≤ room_1.slots := Nat.le_of_ble_eq_true rfl
