/-! THE TABLES ARE RIGHT, 10: all of them. -/
theorem grp_all : ∀ i, i < 24 → GrpB i
  | 0, _ => grp_0
  | 1, _ => grp_1
  | 2, _ => grp_2
  | 3, _ => grp_3
  | 4, _ => grp_4
  | 5, _ => grp_5
  | 6, _ => grp_6
  | 7, _ => grp_7
  | 8, _ => grp_8
  | 9, _ => grp_9
  | 10, _ => grp_10
  | 11, _ => grp_11
  | 12, _ => grp_12
  | 13, _ => grp_13
  | 14, _ => grp_14
  | 15, _ => grp_15
  | 16, _ => grp_16
  | 17, _ => grp_17
  | 18, _ => grp_18
  | 19, _ => grp_19
  | 20, _ => grp_20
  | 21, _ => grp_21
  | 22, _ => grp_22
  | 23, _ => grp_23
  | n + 24, h => absurd h (by omega)
theorem tab_all (mi pc : Nat) (en : Ent) (h : mi < 375) (hp : prgE mi pc = some en) : TabAt mi pc en := tab_of (grp_all (mi / 16) (by omega)) rfl h hp
