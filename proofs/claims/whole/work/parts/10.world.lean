/-! THE WORLD: cells of a fixed shape at addresses ad kind c i; what changes are numbers: Mem (kind, c, i, slot). Class: kinds below 40 (s); reference: 40 and above (r). -/
abbrev Mem : Type := Nat → Nat → Nat → Nat → Int32
abbrev Geo : Type := va_G × (Nat → ClassId) × (Nat → Nat → Nat → Nat) × (Nat → Prop)
abbrev gT (G : Geo) : Nat → ClassId := G.2.1
abbrev gA (G : Geo) : Nat → Nat → Nat → Nat := G.2.2.1
abbrev gF (G : Geo) : Nat → Prop := G.2.2.2
def up4 (u : Mem) (k c i s : Nat) (v : Int32) : Mem := fun k' c' i' => if k' = k ∧ c' = c ∧ i' = i then upd (u k c i) s v else u k' c' i'
def mm (x y : Mem) (k : Nat) : Nat → Nat → Nat → Int32 := if k < 40 then x k else y k
def dims : List (Nat × Nat × Nat) := [(0, 10, 4), (1, 10, 4), (2, 10, 1), (3, 10, 1), (4, 10, 1), (5, 10, 1), (6, 10, 1), (7, 10, 1), (8, 10, 1), (9, 10, 4), (10, 10, 4), (11, 10, 1), (12, 10, 31), (13, 10, 1), (14, 1, 1), (15, 1, 1), (16, 1, 1), (17, 1, 1), (18, 1, 1), (19, 1, 1), (20, 1, 1), (21, 1, 1), (22, 1, 1), (23, 1, 1), (24, 1, 1), (25, 1, 28), (40, 1, 1), (101, 1, 1), (102, 1, 1), (103, 1, 1), (104, 1, 1), (105, 1, 1), (106, 1, 1), (107, 1, 1), (108, 1, 1), (109, 1, 1), (110, 1, 1), (111, 1, 1), (112, 1, 1), (113, 1, 1), (114, 1, 1), (115, 1, 1), (116, 1, 1), (117, 1, 1), (118, 1, 1), (119, 1, 1), (120, 1, 1), (121, 1, 1), (122, 1, 1), (123, 1, 1), (124, 1, 1), (125, 1, 1), (126, 1, 1), (127, 1, 1), (128, 1, 1), (129, 1, 1), (130, 1, 1), (131, 1, 1), (132, 1, 1), (141, 1, 1), (142, 1, 1), (143, 1, 1), (147, 1, 1), (148, 1, 1), (149, 1, 1), (150, 1, 1), (155, 1, 1), (156, 1, 1), (157, 1, 1), (158, 1, 1)]
def ids : List (Nat × Nat × Nat) := dims.flatMap fun d => (List.range d.2.1).flatMap fun c => (List.range d.2.2).map fun i => (d.1, c, i)
theorem mem_ids {k C I c i : Nat} (h : (k, C, I) ∈ dims) (hc : c < C) (hi : i < I) : (k, c, i) ∈ ids := List.mem_flatMap.mpr ⟨_, h, List.mem_flatMap.mpr ⟨c, List.mem_range.mpr hc, List.mem_map.mpr ⟨i, List.mem_range.mpr hi, rfl⟩⟩⟩
def shp (G : Geo) (k c i : Nat) (g : Nat → Int32) : va_E :=
  if k = 0 then .inr (2, [.int (g 0), .int (g 1), .int (g 2), .int (g 3), .int (g 4), .int (g 5), .int (g 6), .int (g 7), .int (g 8), .int (g 9), .int (g 10), .int (g 11), .int (g 12), .ref (gA G 1 c i)]) else
  if k = 1 then .inl (gT G 0, (30, .inl g)) else
  if k = 2 then .inr (3, [.int (g 0), .int (g 1), .int (g 2), .int (g 3), .int (g 4), .int (g 5), .int (g 6), .ref (gA G 3 c 0), .ref (gA G 6 c 0), .ref (gA G 8 c 0), .ref (gA G 0 c 3), .ref (gA G 11 c 0), .ref (gA G 9 c 3), .ref (gA G 13 c 0), .ref (gA G 12 c 30)]) else
  if k = 3 then .inr (12, [.int (g 0), .ref (gA G 4 c 0), .ref (gA G 5 c 0)]) else
  if k = 4 then .inl (gT G 0, (8, .inl g)) else
  if k = 5 then .inl (gT G 0, (8, .inl g)) else
  if k = 6 then .inr (9, [.int (g 0), .ref (gA G 7 c 0)]) else
  if k = 7 then .inl (gT G 0, (96, .inl g)) else
  if k = 8 then .inl (gT G 2, (3, .inr (.inr (.inr (.inr (fun j => some (gA G 0 c j))))))) else
  if k = 9 then .inr (11, [.int (g 0), .int (g 1), .int (g 2), .int (g 3), .int (g 4), .int (g 5), .ref (gA G 10 c i)]) else
  if k = 10 then .inl (gT G 0, (4, .inl g)) else
  if k = 11 then .inl (gT G 3, (3, .inr (.inr (.inr (.inr (fun j => some (gA G 9 c j))))))) else
  if k = 12 then .inr (7, [.int (g 0), .int (g 1), .int (g 2), .int (g 3), .int (g 4), .int (g 5), .int (g 6), .int (g 7), .int (g 8), .int (g 9)]) else
  if k = 13 then .inl (gT G 4, (30, .inr (.inr (.inr (.inr (fun j => some (gA G 12 c j))))))) else
  if k = 14 then .inr (13, [.ref (gA G 2 0 0), .ref (gA G 2 1 0), .ref (gA G 2 2 0), .int (g 3), .ref (gA G 15 0 0), .ref (gA G 17 0 0), .ref (gA G 22 0 0)]) else
  if k = 15 then .inr (6, [.int (g 0), .int (g 1), .ref (gA G 16 0 0), .ref (gA G 2 3 0)]) else
  if k = 16 then .inl (gT G 5, (6, .inr (.inr (.inr (.inr (fun j => some (gA G 2 (4 + j) 0))))))) else
  if k = 17 then .inr (10, [.ref (gA G 19 0 0), .ref (gA G 18 0 0)]) else
  if k = 18 then .inl (gT G 0, (3, .inl g)) else
  if k = 19 then .inr (8, [.int (g 0), .int (g 1), .ref (gA G 20 0 0), .ref (gA G 21 0 0)]) else
  if k = 20 then .inl (gT G 0, (3, .inl g)) else
  if k = 21 then .inl (gT G 0, (3, .inl g)) else
  if k = 22 then .inr (5, [.int (g 0), .ref (gA G 23 0 0), .int (g 2), .int (g 3), .int (g 4), .ref (gA G 24 0 0), .ref (gA G 25 0 27)]) else
  if k = 23 then .inl (gT G 1, (80, .inl g)) else
  if k = 24 then .inl (gT G 6, (27, .inr (.inr (.inr (.inr (fun j => some (gA G 25 0 j))))))) else
  if k = 25 then .inr (4, [.int (g 0), .int (g 1), .int (g 2), .int (g 3), .int (g 4), .int (g 5), .int (g 6), .int (g 7), .int (g 8), .int (g 9)]) else
  if k = 40 then .inr (14, [.int (g 0), .ref (gA G 101 0 0), .ref (gA G 102 0 0), .ref (gA G 103 0 0), .ref (gA G 104 0 0), .ref (gA G 105 0 0), .ref (gA G 106 0 0), .ref (gA G 107 0 0), .ref (gA G 108 0 0), .ref (gA G 109 0 0), .ref (gA G 110 0 0), .ref (gA G 111 0 0), .ref (gA G 112 0 0), .ref (gA G 113 0 0), .ref (gA G 114 0 0), .ref (gA G 115 0 0), .ref (gA G 116 0 0), .ref (gA G 117 0 0), .ref (gA G 118 0 0), .ref (gA G 119 0 0), .ref (gA G 120 0 0), .ref (gA G 121 0 0), .ref (gA G 122 0 0), .ref (gA G 123 0 0), .ref (gA G 124 0 0), .ref (gA G 125 0 0), .ref (gA G 126 0 0), .ref (gA G 127 0 0), .ref (gA G 128 0 0), .ref (gA G 129 0 0), .ref (gA G 130 0 0), .ref (gA G 131 0 0), .ref (gA G 132 0 0), .int (g 33), .int (g 34), .int (g 35), .int (g 36), .int (g 37), .int (g 38), .int (g 39), .int (g 40), .ref (gA G 141 0 0), .ref (gA G 142 0 0), .ref (gA G 143 0 0), .int (g 44), .int (g 45), .int (g 46), .ref (gA G 147 0 0), .ref (gA G 148 0 0), .ref (gA G 149 0 0), .ref (gA G 150 0 0), .int (g 51), .int (g 52), .int (g 53), .int (g 54), .ref (gA G 155 0 0), .ref (gA G 156 0 0), .ref (gA G 157 0 0), .ref (gA G 158 0 0), .int (g 59), .int (g 60), .int (g 61), .int (g 62)]) else
  if k = 101 then .inl (gT G 0, (8, .inl g)) else
  if k = 102 then .inl (gT G 0, (8, .inl g)) else
  if k = 103 then .inl (gT G 0, (3, .inl g)) else
  if k = 104 then .inl (gT G 0, (3, .inl g)) else
  if k = 105 then .inl (gT G 0, (12, .inl g)) else
  if k = 106 then .inl (gT G 0, (3, .inl g)) else
  if k = 107 then .inl (gT G 0, (3, .inl g)) else
  if k = 108 then .inl (gT G 0, (3, .inl g)) else
  if k = 109 then .inl (gT G 0, (3, .inl g)) else
  if k = 110 then .inl (gT G 0, (3, .inl g)) else
  if k = 111 then .inl (gT G 0, (3, .inl g)) else
  if k = 112 then .inl (gT G 0, (90, .inl g)) else
  if k = 113 then .inl (gT G 0, (3, .inl g)) else
  if k = 114 then .inl (gT G 0, (3, .inl g)) else
  if k = 115 then .inl (gT G 0, (3, .inl g)) else
  if k = 116 then .inl (gT G 0, (3, .inl g)) else
  if k = 117 then .inl (gT G 0, (3, .inl g)) else
  if k = 118 then .inl (gT G 0, (3, .inl g)) else
  if k = 119 then .inl (gT G 0, (3, .inl g)) else
  if k = 120 then .inl (gT G 0, (3, .inl g)) else
  if k = 121 then .inl (gT G 0, (3, .inl g)) else
  if k = 122 then .inl (gT G 0, (30, .inl g)) else
  if k = 123 then .inl (gT G 0, (30, .inl g)) else
  if k = 124 then .inl (gT G 0, (30, .inl g)) else
  if k = 125 then .inl (gT G 0, (30, .inl g)) else
  if k = 126 then .inl (gT G 0, (30, .inl g)) else
  if k = 127 then .inl (gT G 0, (30, .inl g)) else
  if k = 128 then .inl (gT G 0, (30, .inl g)) else
  if k = 129 then .inl (gT G 0, (30, .inl g)) else
  if k = 130 then .inl (gT G 0, (30, .inl g)) else
  if k = 131 then .inl (gT G 0, (30, .inl g)) else
  if k = 132 then .inl (gT G 0, (96, .inl g)) else
  if k = 141 then .inl (gT G 0, (3, .inl g)) else
  if k = 142 then .inl (gT G 0, (3, .inl g)) else
  if k = 143 then .inl (gT G 0, (3, .inl g)) else
  if k = 147 then .inl (gT G 0, (3, .inl g)) else
  if k = 148 then .inl (gT G 0, (80, .inl g)) else
  if k = 149 then .inl (gT G 0, (40, .inl g)) else
  if k = 150 then .inl (gT G 0, (240, .inl g)) else
  if k = 155 then .inl (gT G 0, (3438, .inl g)) else
  if k = 156 then .inl (gT G 0, (573, .inl g)) else
  if k = 157 then .inl (gT G 0, (573, .inl g)) else
  if k = 158 then .inl (gT G 0, (573, .inl g)) else
  .inr (0, [])
theorem sh_0 {G : Geo} {c i : Nat} {g : Nat → Int32} : shp G 0 c i g = .inr (2, [.int (g 0), .int (g 1), .int (g 2), .int (g 3), .int (g 4), .int (g 5), .int (g 6), .int (g 7), .int (g 8), .int (g 9), .int (g 10), .int (g 11), .int (g 12), .ref (gA G 1 c i)]) := rfl
theorem sh_1 {G : Geo} {c i : Nat} {g : Nat → Int32} : shp G 1 c i g = .inl (gT G 0, (30, .inl g)) := rfl
theorem sh_2 {G : Geo} {c i : Nat} {g : Nat → Int32} : shp G 2 c i g = .inr (3, [.int (g 0), .int (g 1), .int (g 2), .int (g 3), .int (g 4), .int (g 5), .int (g 6), .ref (gA G 3 c 0), .ref (gA G 6 c 0), .ref (gA G 8 c 0), .ref (gA G 0 c 3), .ref (gA G 11 c 0), .ref (gA G 9 c 3), .ref (gA G 13 c 0), .ref (gA G 12 c 30)]) := rfl
theorem sh_3 {G : Geo} {c i : Nat} {g : Nat → Int32} : shp G 3 c i g = .inr (12, [.int (g 0), .ref (gA G 4 c 0), .ref (gA G 5 c 0)]) := rfl
theorem sh_4 {G : Geo} {c i : Nat} {g : Nat → Int32} : shp G 4 c i g = .inl (gT G 0, (8, .inl g)) := rfl
theorem sh_5 {G : Geo} {c i : Nat} {g : Nat → Int32} : shp G 5 c i g = .inl (gT G 0, (8, .inl g)) := rfl
theorem sh_6 {G : Geo} {c i : Nat} {g : Nat → Int32} : shp G 6 c i g = .inr (9, [.int (g 0), .ref (gA G 7 c 0)]) := rfl
theorem sh_7 {G : Geo} {c i : Nat} {g : Nat → Int32} : shp G 7 c i g = .inl (gT G 0, (96, .inl g)) := rfl
theorem sh_8 {G : Geo} {c i : Nat} {g : Nat → Int32} : shp G 8 c i g = .inl (gT G 2, (3, .inr (.inr (.inr (.inr (fun j => some (gA G 0 c j))))))) := rfl
theorem sh_9 {G : Geo} {c i : Nat} {g : Nat → Int32} : shp G 9 c i g = .inr (11, [.int (g 0), .int (g 1), .int (g 2), .int (g 3), .int (g 4), .int (g 5), .ref (gA G 10 c i)]) := rfl
theorem sh_10 {G : Geo} {c i : Nat} {g : Nat → Int32} : shp G 10 c i g = .inl (gT G 0, (4, .inl g)) := rfl
theorem sh_11 {G : Geo} {c i : Nat} {g : Nat → Int32} : shp G 11 c i g = .inl (gT G 3, (3, .inr (.inr (.inr (.inr (fun j => some (gA G 9 c j))))))) := rfl
theorem sh_12 {G : Geo} {c i : Nat} {g : Nat → Int32} : shp G 12 c i g = .inr (7, [.int (g 0), .int (g 1), .int (g 2), .int (g 3), .int (g 4), .int (g 5), .int (g 6), .int (g 7), .int (g 8), .int (g 9)]) := rfl
theorem sh_13 {G : Geo} {c i : Nat} {g : Nat → Int32} : shp G 13 c i g = .inl (gT G 4, (30, .inr (.inr (.inr (.inr (fun j => some (gA G 12 c j))))))) := rfl
theorem sh_14 {G : Geo} {c i : Nat} {g : Nat → Int32} : shp G 14 c i g = .inr (13, [.ref (gA G 2 0 0), .ref (gA G 2 1 0), .ref (gA G 2 2 0), .int (g 3), .ref (gA G 15 0 0), .ref (gA G 17 0 0), .ref (gA G 22 0 0)]) := rfl
theorem sh_15 {G : Geo} {c i : Nat} {g : Nat → Int32} : shp G 15 c i g = .inr (6, [.int (g 0), .int (g 1), .ref (gA G 16 0 0), .ref (gA G 2 3 0)]) := rfl
theorem sh_16 {G : Geo} {c i : Nat} {g : Nat → Int32} : shp G 16 c i g = .inl (gT G 5, (6, .inr (.inr (.inr (.inr (fun j => some (gA G 2 (4 + j) 0))))))) := rfl
theorem sh_17 {G : Geo} {c i : Nat} {g : Nat → Int32} : shp G 17 c i g = .inr (10, [.ref (gA G 19 0 0), .ref (gA G 18 0 0)]) := rfl
theorem sh_18 {G : Geo} {c i : Nat} {g : Nat → Int32} : shp G 18 c i g = .inl (gT G 0, (3, .inl g)) := rfl
theorem sh_19 {G : Geo} {c i : Nat} {g : Nat → Int32} : shp G 19 c i g = .inr (8, [.int (g 0), .int (g 1), .ref (gA G 20 0 0), .ref (gA G 21 0 0)]) := rfl
theorem sh_20 {G : Geo} {c i : Nat} {g : Nat → Int32} : shp G 20 c i g = .inl (gT G 0, (3, .inl g)) := rfl
theorem sh_21 {G : Geo} {c i : Nat} {g : Nat → Int32} : shp G 21 c i g = .inl (gT G 0, (3, .inl g)) := rfl
theorem sh_22 {G : Geo} {c i : Nat} {g : Nat → Int32} : shp G 22 c i g = .inr (5, [.int (g 0), .ref (gA G 23 0 0), .int (g 2), .int (g 3), .int (g 4), .ref (gA G 24 0 0), .ref (gA G 25 0 27)]) := rfl
theorem sh_23 {G : Geo} {c i : Nat} {g : Nat → Int32} : shp G 23 c i g = .inl (gT G 1, (80, .inl g)) := rfl
theorem sh_24 {G : Geo} {c i : Nat} {g : Nat → Int32} : shp G 24 c i g = .inl (gT G 6, (27, .inr (.inr (.inr (.inr (fun j => some (gA G 25 0 j))))))) := rfl
theorem sh_25 {G : Geo} {c i : Nat} {g : Nat → Int32} : shp G 25 c i g = .inr (4, [.int (g 0), .int (g 1), .int (g 2), .int (g 3), .int (g 4), .int (g 5), .int (g 6), .int (g 7), .int (g 8), .int (g 9)]) := rfl
theorem sh_40 {G : Geo} {c i : Nat} {g : Nat → Int32} : shp G 40 c i g = .inr (14, [.int (g 0), .ref (gA G 101 0 0), .ref (gA G 102 0 0), .ref (gA G 103 0 0), .ref (gA G 104 0 0), .ref (gA G 105 0 0), .ref (gA G 106 0 0), .ref (gA G 107 0 0), .ref (gA G 108 0 0), .ref (gA G 109 0 0), .ref (gA G 110 0 0), .ref (gA G 111 0 0), .ref (gA G 112 0 0), .ref (gA G 113 0 0), .ref (gA G 114 0 0), .ref (gA G 115 0 0), .ref (gA G 116 0 0), .ref (gA G 117 0 0), .ref (gA G 118 0 0), .ref (gA G 119 0 0), .ref (gA G 120 0 0), .ref (gA G 121 0 0), .ref (gA G 122 0 0), .ref (gA G 123 0 0), .ref (gA G 124 0 0), .ref (gA G 125 0 0), .ref (gA G 126 0 0), .ref (gA G 127 0 0), .ref (gA G 128 0 0), .ref (gA G 129 0 0), .ref (gA G 130 0 0), .ref (gA G 131 0 0), .ref (gA G 132 0 0), .int (g 33), .int (g 34), .int (g 35), .int (g 36), .int (g 37), .int (g 38), .int (g 39), .int (g 40), .ref (gA G 141 0 0), .ref (gA G 142 0 0), .ref (gA G 143 0 0), .int (g 44), .int (g 45), .int (g 46), .ref (gA G 147 0 0), .ref (gA G 148 0 0), .ref (gA G 149 0 0), .ref (gA G 150 0 0), .int (g 51), .int (g 52), .int (g 53), .int (g 54), .ref (gA G 155 0 0), .ref (gA G 156 0 0), .ref (gA G 157 0 0), .ref (gA G 158 0 0), .int (g 59), .int (g 60), .int (g 61), .int (g 62)]) := rfl
theorem sh_101 {G : Geo} {c i : Nat} {g : Nat → Int32} : shp G 101 c i g = .inl (gT G 0, (8, .inl g)) := rfl
theorem sh_102 {G : Geo} {c i : Nat} {g : Nat → Int32} : shp G 102 c i g = .inl (gT G 0, (8, .inl g)) := rfl
theorem sh_103 {G : Geo} {c i : Nat} {g : Nat → Int32} : shp G 103 c i g = .inl (gT G 0, (3, .inl g)) := rfl
theorem sh_104 {G : Geo} {c i : Nat} {g : Nat → Int32} : shp G 104 c i g = .inl (gT G 0, (3, .inl g)) := rfl
theorem sh_105 {G : Geo} {c i : Nat} {g : Nat → Int32} : shp G 105 c i g = .inl (gT G 0, (12, .inl g)) := rfl
theorem sh_106 {G : Geo} {c i : Nat} {g : Nat → Int32} : shp G 106 c i g = .inl (gT G 0, (3, .inl g)) := rfl
theorem sh_107 {G : Geo} {c i : Nat} {g : Nat → Int32} : shp G 107 c i g = .inl (gT G 0, (3, .inl g)) := rfl
theorem sh_108 {G : Geo} {c i : Nat} {g : Nat → Int32} : shp G 108 c i g = .inl (gT G 0, (3, .inl g)) := rfl
theorem sh_109 {G : Geo} {c i : Nat} {g : Nat → Int32} : shp G 109 c i g = .inl (gT G 0, (3, .inl g)) := rfl
theorem sh_110 {G : Geo} {c i : Nat} {g : Nat → Int32} : shp G 110 c i g = .inl (gT G 0, (3, .inl g)) := rfl
theorem sh_111 {G : Geo} {c i : Nat} {g : Nat → Int32} : shp G 111 c i g = .inl (gT G 0, (3, .inl g)) := rfl
theorem sh_112 {G : Geo} {c i : Nat} {g : Nat → Int32} : shp G 112 c i g = .inl (gT G 0, (90, .inl g)) := rfl
theorem sh_113 {G : Geo} {c i : Nat} {g : Nat → Int32} : shp G 113 c i g = .inl (gT G 0, (3, .inl g)) := rfl
theorem sh_114 {G : Geo} {c i : Nat} {g : Nat → Int32} : shp G 114 c i g = .inl (gT G 0, (3, .inl g)) := rfl
theorem sh_115 {G : Geo} {c i : Nat} {g : Nat → Int32} : shp G 115 c i g = .inl (gT G 0, (3, .inl g)) := rfl
theorem sh_116 {G : Geo} {c i : Nat} {g : Nat → Int32} : shp G 116 c i g = .inl (gT G 0, (3, .inl g)) := rfl
theorem sh_117 {G : Geo} {c i : Nat} {g : Nat → Int32} : shp G 117 c i g = .inl (gT G 0, (3, .inl g)) := rfl
theorem sh_118 {G : Geo} {c i : Nat} {g : Nat → Int32} : shp G 118 c i g = .inl (gT G 0, (3, .inl g)) := rfl
theorem sh_119 {G : Geo} {c i : Nat} {g : Nat → Int32} : shp G 119 c i g = .inl (gT G 0, (3, .inl g)) := rfl
theorem sh_120 {G : Geo} {c i : Nat} {g : Nat → Int32} : shp G 120 c i g = .inl (gT G 0, (3, .inl g)) := rfl
theorem sh_121 {G : Geo} {c i : Nat} {g : Nat → Int32} : shp G 121 c i g = .inl (gT G 0, (3, .inl g)) := rfl
theorem sh_122 {G : Geo} {c i : Nat} {g : Nat → Int32} : shp G 122 c i g = .inl (gT G 0, (30, .inl g)) := rfl
theorem sh_123 {G : Geo} {c i : Nat} {g : Nat → Int32} : shp G 123 c i g = .inl (gT G 0, (30, .inl g)) := rfl
theorem sh_124 {G : Geo} {c i : Nat} {g : Nat → Int32} : shp G 124 c i g = .inl (gT G 0, (30, .inl g)) := rfl
theorem sh_125 {G : Geo} {c i : Nat} {g : Nat → Int32} : shp G 125 c i g = .inl (gT G 0, (30, .inl g)) := rfl
theorem sh_126 {G : Geo} {c i : Nat} {g : Nat → Int32} : shp G 126 c i g = .inl (gT G 0, (30, .inl g)) := rfl
theorem sh_127 {G : Geo} {c i : Nat} {g : Nat → Int32} : shp G 127 c i g = .inl (gT G 0, (30, .inl g)) := rfl
theorem sh_128 {G : Geo} {c i : Nat} {g : Nat → Int32} : shp G 128 c i g = .inl (gT G 0, (30, .inl g)) := rfl
theorem sh_129 {G : Geo} {c i : Nat} {g : Nat → Int32} : shp G 129 c i g = .inl (gT G 0, (30, .inl g)) := rfl
theorem sh_130 {G : Geo} {c i : Nat} {g : Nat → Int32} : shp G 130 c i g = .inl (gT G 0, (30, .inl g)) := rfl
theorem sh_131 {G : Geo} {c i : Nat} {g : Nat → Int32} : shp G 131 c i g = .inl (gT G 0, (30, .inl g)) := rfl
theorem sh_132 {G : Geo} {c i : Nat} {g : Nat → Int32} : shp G 132 c i g = .inl (gT G 0, (96, .inl g)) := rfl
theorem sh_141 {G : Geo} {c i : Nat} {g : Nat → Int32} : shp G 141 c i g = .inl (gT G 0, (3, .inl g)) := rfl
theorem sh_142 {G : Geo} {c i : Nat} {g : Nat → Int32} : shp G 142 c i g = .inl (gT G 0, (3, .inl g)) := rfl
theorem sh_143 {G : Geo} {c i : Nat} {g : Nat → Int32} : shp G 143 c i g = .inl (gT G 0, (3, .inl g)) := rfl
theorem sh_147 {G : Geo} {c i : Nat} {g : Nat → Int32} : shp G 147 c i g = .inl (gT G 0, (3, .inl g)) := rfl
theorem sh_148 {G : Geo} {c i : Nat} {g : Nat → Int32} : shp G 148 c i g = .inl (gT G 0, (80, .inl g)) := rfl
theorem sh_149 {G : Geo} {c i : Nat} {g : Nat → Int32} : shp G 149 c i g = .inl (gT G 0, (40, .inl g)) := rfl
theorem sh_150 {G : Geo} {c i : Nat} {g : Nat → Int32} : shp G 150 c i g = .inl (gT G 0, (240, .inl g)) := rfl
theorem sh_155 {G : Geo} {c i : Nat} {g : Nat → Int32} : shp G 155 c i g = .inl (gT G 0, (3438, .inl g)) := rfl
theorem sh_156 {G : Geo} {c i : Nat} {g : Nat → Int32} : shp G 156 c i g = .inl (gT G 0, (573, .inl g)) := rfl
theorem sh_157 {G : Geo} {c i : Nat} {g : Nat → Int32} : shp G 157 c i g = .inl (gT G 0, (573, .inl g)) := rfl
theorem sh_158 {G : Geo} {c i : Nat} {g : Nat → Int32} : shp G 158 c i g = .inl (gT G 0, (573, .inl g)) := rfl
def wl (G : Geo) (x y : Mem) : va_W := ids.map fun t => (gA G t.1 t.2.1 t.2.2, shp G t.1 t.2.1 t.2.2 (mm x y t.1 t.2.1 t.2.2))
def tyL (G : Geo) : List (ClassId × FieldType) := [(gT G 0, .int), (gT G 1, .char), (gT G 2, .object "RobotCell$Arm"), (gT G 3, .object "RobotCell$Store"), (gT G 4, .object "RobotCell$Job"), (gT G 5, .object "RobotCell$Cell"), (gT G 6, .object "RobotCell$Command"), (gT G 7, .long), (gT G 8, .double)]
def nestW : List Cond := [.methodLinkNest RX3 17 yX2_init "RobotCell", .methodLinkNest RX10 22 yX11_copyNumbers "RobotCell", .methodLinkNest RX7 19 yX11_copyNumbers "RobotCell", .methodLinkNest RX0 55 yX11_copyNumbers "RobotCell", .methodLinkNest RX9 34 yX11_copyNumbers "RobotCell", .methodLinkNest RX1 110 yX11_isWithin "RobotCell", .methodLinkNest RX10 26 yX11_isWithin "RobotCell"]
abbrev Kt (G : Geo) (U : State) : Prop := va_K G.1 vwCl (tyL G) U ∧ ∀ w ∈ nestW, va_Nw w U
abbrev Wh (G : Geo) (x y : Mem) (H : Heap) : Prop := va_P G.1 vwCl (wl G x y) H ∧ va_D (gF G) (wl G x y)
theorem mm_c {x y : Mem} {k : Nat} (h : k < 40) : mm x y k = x k := if_pos h
theorem mm_r {x y : Mem} {k : Nat} (h : ¬ k < 40) : mm x y k = y k := if_neg h
theorem wl_get {G : Geo} {x y : Mem} {k c i : Nat} (h : (k, c, i) ∈ ids) : ∃ q0 : Nat, ids[q0]? = some (k, c, i) ∧ (wl G x y)[q0]? = some (gA G k c i, shp G k c i (mm x y k c i)) := by
  obtain ⟨q0, h0⟩ := List.getElem?_of_mem h
  exact ⟨q0, h0, by simp [wl, h0]⟩
theorem wl_set_c {G : Geo} {x y : Mem} {F : Nat → Prop} {k c i s q0 : Nat} {v : Int32} (hk : k < 40) (hD : va_D F (wl G x y)) (h0 : ids[q0]? = some (k, c, i)) : (wl G x y).set q0 (gA G k c i, shp G k c i (upd (x k c i) s v)) = wl G (up4 x k c i s v) y := by
  apply List.ext_getElem?
  intro j
  by_cases hj : j = q0
  · subst hj
    have hl : j < (wl G x y).length := by
      have := (List.getElem?_eq_some_iff.mp h0).1
      simpa [wl] using this
    rw [List.getElem?_set_self hl]
    simp [wl, h0, mm, hk, up4]
  · rw [List.getElem?_set_ne (Ne.symm hj)]
    cases ht : ids[j]? with
    | none => simp [wl, ht]
    | some t =>
      obtain ⟨k', c', i'⟩ := t
      have hne : ¬ (k' = k ∧ c' = c ∧ i' = i) := by
        rintro ⟨rfl, rfl, rfl⟩
        exact hj (hD.1 j q0 (gA G k' c' i', shp G k' c' i' (mm x y k' c' i')) (gA G k' c' i', shp G k' c' i' (mm x y k' c' i')) (by simp [wl, ht]) (by simp [wl, h0]) rfl)
      by_cases hk' : k' < 40 <;> simp [wl, ht, mm, up4, hne, hk']
theorem wl_set_r {G : Geo} {x y : Mem} {F : Nat → Prop} {k c i s q0 : Nat} {v : Int32} (hk : ¬ k < 40) (hD : va_D F (wl G x y)) (h0 : ids[q0]? = some (k, c, i)) : (wl G x y).set q0 (gA G k c i, shp G k c i (upd (y k c i) s v)) = wl G x (up4 y k c i s v) := by
  apply List.ext_getElem?
  intro j
  by_cases hj : j = q0
  · subst hj
    have hl : j < (wl G x y).length := by
      have := (List.getElem?_eq_some_iff.mp h0).1
      simpa [wl] using this
    rw [List.getElem?_set_self hl]
    simp [wl, h0, mm, hk, up4]
  · rw [List.getElem?_set_ne (Ne.symm hj)]
    cases ht : ids[j]? with
    | none => simp [wl, ht]
    | some t =>
      obtain ⟨k', c', i'⟩ := t
      have hne : ¬ (k' = k ∧ c' = c ∧ i' = i) := by
        rintro ⟨rfl, rfl, rfl⟩
        exact hj (hD.1 j q0 (gA G k' c' i', shp G k' c' i' (mm x y k' c' i')) (gA G k' c' i', shp G k' c' i' (mm x y k' c' i')) (by simp [wl, ht]) (by simp [wl, h0]) rfl)
      by_cases hk' : k' < 40 <;> simp [wl, ht, mm, up4, hne, hk']
theorem id_0 (a : Fin 10 × Fin 4) : (0, ↑a.1, ↑a.2) ∈ ids := mem_ids (C := 10) (I := 4) (by decide) a.1.2 a.2.2
theorem id_1 (a : Fin 10 × Fin 4) : (1, ↑a.1, ↑a.2) ∈ ids := mem_ids (C := 10) (I := 4) (by decide) a.1.2 a.2.2
theorem id_2 (a : Fin 10) : (2, ↑a, 0) ∈ ids := mem_ids (C := 10) (I := 1) (by decide) a.2 (by decide)
theorem id_3 (a : Fin 10) : (3, ↑a, 0) ∈ ids := mem_ids (C := 10) (I := 1) (by decide) a.2 (by decide)
theorem id_4 (a : Fin 10) : (4, ↑a, 0) ∈ ids := mem_ids (C := 10) (I := 1) (by decide) a.2 (by decide)
theorem id_5 (a : Fin 10) : (5, ↑a, 0) ∈ ids := mem_ids (C := 10) (I := 1) (by decide) a.2 (by decide)
theorem id_6 (a : Fin 10) : (6, ↑a, 0) ∈ ids := mem_ids (C := 10) (I := 1) (by decide) a.2 (by decide)
theorem id_7 (a : Fin 10) : (7, ↑a, 0) ∈ ids := mem_ids (C := 10) (I := 1) (by decide) a.2 (by decide)
theorem id_8 (a : Fin 10) : (8, ↑a, 0) ∈ ids := mem_ids (C := 10) (I := 1) (by decide) a.2 (by decide)
theorem id_9 (a : Fin 10 × Fin 4) : (9, ↑a.1, ↑a.2) ∈ ids := mem_ids (C := 10) (I := 4) (by decide) a.1.2 a.2.2
theorem id_10 (a : Fin 10 × Fin 4) : (10, ↑a.1, ↑a.2) ∈ ids := mem_ids (C := 10) (I := 4) (by decide) a.1.2 a.2.2
theorem id_11 (a : Fin 10) : (11, ↑a, 0) ∈ ids := mem_ids (C := 10) (I := 1) (by decide) a.2 (by decide)
theorem id_12 (a : Fin 10 × Fin 31) : (12, ↑a.1, ↑a.2) ∈ ids := mem_ids (C := 10) (I := 31) (by decide) a.1.2 a.2.2
theorem id_13 (a : Fin 10) : (13, ↑a, 0) ∈ ids := mem_ids (C := 10) (I := 1) (by decide) a.2 (by decide)
theorem id_14 : (14, 0, 0) ∈ ids := mem_ids (C := 1) (I := 1) (by decide) (by decide) (by decide)
theorem id_15 : (15, 0, 0) ∈ ids := mem_ids (C := 1) (I := 1) (by decide) (by decide) (by decide)
theorem id_16 : (16, 0, 0) ∈ ids := mem_ids (C := 1) (I := 1) (by decide) (by decide) (by decide)
theorem id_17 : (17, 0, 0) ∈ ids := mem_ids (C := 1) (I := 1) (by decide) (by decide) (by decide)
theorem id_18 : (18, 0, 0) ∈ ids := mem_ids (C := 1) (I := 1) (by decide) (by decide) (by decide)
theorem id_19 : (19, 0, 0) ∈ ids := mem_ids (C := 1) (I := 1) (by decide) (by decide) (by decide)
theorem id_20 : (20, 0, 0) ∈ ids := mem_ids (C := 1) (I := 1) (by decide) (by decide) (by decide)
theorem id_21 : (21, 0, 0) ∈ ids := mem_ids (C := 1) (I := 1) (by decide) (by decide) (by decide)
theorem id_22 : (22, 0, 0) ∈ ids := mem_ids (C := 1) (I := 1) (by decide) (by decide) (by decide)
theorem id_23 : (23, 0, 0) ∈ ids := mem_ids (C := 1) (I := 1) (by decide) (by decide) (by decide)
theorem id_24 : (24, 0, 0) ∈ ids := mem_ids (C := 1) (I := 1) (by decide) (by decide) (by decide)
theorem id_25 (a : Fin 28) : (25, 0, ↑a) ∈ ids := mem_ids (C := 1) (I := 28) (by decide) (by decide) a.2
theorem id_40 : (40, 0, 0) ∈ ids := mem_ids (C := 1) (I := 1) (by decide) (by decide) (by decide)
theorem id_101 : (101, 0, 0) ∈ ids := mem_ids (C := 1) (I := 1) (by decide) (by decide) (by decide)
theorem id_102 : (102, 0, 0) ∈ ids := mem_ids (C := 1) (I := 1) (by decide) (by decide) (by decide)
theorem id_103 : (103, 0, 0) ∈ ids := mem_ids (C := 1) (I := 1) (by decide) (by decide) (by decide)
theorem id_104 : (104, 0, 0) ∈ ids := mem_ids (C := 1) (I := 1) (by decide) (by decide) (by decide)
theorem id_105 : (105, 0, 0) ∈ ids := mem_ids (C := 1) (I := 1) (by decide) (by decide) (by decide)
theorem id_106 : (106, 0, 0) ∈ ids := mem_ids (C := 1) (I := 1) (by decide) (by decide) (by decide)
theorem id_107 : (107, 0, 0) ∈ ids := mem_ids (C := 1) (I := 1) (by decide) (by decide) (by decide)
theorem id_108 : (108, 0, 0) ∈ ids := mem_ids (C := 1) (I := 1) (by decide) (by decide) (by decide)
theorem id_109 : (109, 0, 0) ∈ ids := mem_ids (C := 1) (I := 1) (by decide) (by decide) (by decide)
theorem id_110 : (110, 0, 0) ∈ ids := mem_ids (C := 1) (I := 1) (by decide) (by decide) (by decide)
theorem id_111 : (111, 0, 0) ∈ ids := mem_ids (C := 1) (I := 1) (by decide) (by decide) (by decide)
theorem id_112 : (112, 0, 0) ∈ ids := mem_ids (C := 1) (I := 1) (by decide) (by decide) (by decide)
theorem id_113 : (113, 0, 0) ∈ ids := mem_ids (C := 1) (I := 1) (by decide) (by decide) (by decide)
theorem id_114 : (114, 0, 0) ∈ ids := mem_ids (C := 1) (I := 1) (by decide) (by decide) (by decide)
theorem id_115 : (115, 0, 0) ∈ ids := mem_ids (C := 1) (I := 1) (by decide) (by decide) (by decide)
theorem id_116 : (116, 0, 0) ∈ ids := mem_ids (C := 1) (I := 1) (by decide) (by decide) (by decide)
theorem id_117 : (117, 0, 0) ∈ ids := mem_ids (C := 1) (I := 1) (by decide) (by decide) (by decide)
theorem id_118 : (118, 0, 0) ∈ ids := mem_ids (C := 1) (I := 1) (by decide) (by decide) (by decide)
theorem id_119 : (119, 0, 0) ∈ ids := mem_ids (C := 1) (I := 1) (by decide) (by decide) (by decide)
theorem id_120 : (120, 0, 0) ∈ ids := mem_ids (C := 1) (I := 1) (by decide) (by decide) (by decide)
theorem id_121 : (121, 0, 0) ∈ ids := mem_ids (C := 1) (I := 1) (by decide) (by decide) (by decide)
theorem id_122 : (122, 0, 0) ∈ ids := mem_ids (C := 1) (I := 1) (by decide) (by decide) (by decide)
theorem id_123 : (123, 0, 0) ∈ ids := mem_ids (C := 1) (I := 1) (by decide) (by decide) (by decide)
theorem id_124 : (124, 0, 0) ∈ ids := mem_ids (C := 1) (I := 1) (by decide) (by decide) (by decide)
theorem id_125 : (125, 0, 0) ∈ ids := mem_ids (C := 1) (I := 1) (by decide) (by decide) (by decide)
theorem id_126 : (126, 0, 0) ∈ ids := mem_ids (C := 1) (I := 1) (by decide) (by decide) (by decide)
theorem id_127 : (127, 0, 0) ∈ ids := mem_ids (C := 1) (I := 1) (by decide) (by decide) (by decide)
theorem id_128 : (128, 0, 0) ∈ ids := mem_ids (C := 1) (I := 1) (by decide) (by decide) (by decide)
theorem id_129 : (129, 0, 0) ∈ ids := mem_ids (C := 1) (I := 1) (by decide) (by decide) (by decide)
theorem id_130 : (130, 0, 0) ∈ ids := mem_ids (C := 1) (I := 1) (by decide) (by decide) (by decide)
theorem id_131 : (131, 0, 0) ∈ ids := mem_ids (C := 1) (I := 1) (by decide) (by decide) (by decide)
theorem id_132 : (132, 0, 0) ∈ ids := mem_ids (C := 1) (I := 1) (by decide) (by decide) (by decide)
theorem id_141 : (141, 0, 0) ∈ ids := mem_ids (C := 1) (I := 1) (by decide) (by decide) (by decide)
theorem id_142 : (142, 0, 0) ∈ ids := mem_ids (C := 1) (I := 1) (by decide) (by decide) (by decide)
theorem id_143 : (143, 0, 0) ∈ ids := mem_ids (C := 1) (I := 1) (by decide) (by decide) (by decide)
theorem id_147 : (147, 0, 0) ∈ ids := mem_ids (C := 1) (I := 1) (by decide) (by decide) (by decide)
theorem id_148 : (148, 0, 0) ∈ ids := mem_ids (C := 1) (I := 1) (by decide) (by decide) (by decide)
theorem id_149 : (149, 0, 0) ∈ ids := mem_ids (C := 1) (I := 1) (by decide) (by decide) (by decide)
theorem id_150 : (150, 0, 0) ∈ ids := mem_ids (C := 1) (I := 1) (by decide) (by decide) (by decide)
theorem id_155 : (155, 0, 0) ∈ ids := mem_ids (C := 1) (I := 1) (by decide) (by decide) (by decide)
theorem id_156 : (156, 0, 0) ∈ ids := mem_ids (C := 1) (I := 1) (by decide) (by decide) (by decide)
theorem id_157 : (157, 0, 0) ∈ ids := mem_ids (C := 1) (I := 1) (by decide) (by decide) (by decide)
theorem id_158 : (158, 0, 0) ∈ ids := mem_ids (C := 1) (I := 1) (by decide) (by decide) (by decide)
def isB (v : Int32) : Bool := decide (v = 0) || decide (v = 1)
theorem isB_f {v : Int32} (h : isB v = true) : fits .boolean (.int v) = true := by
  simp only [isB, Bool.or_eq_true, decide_eq_true_eq] at h
  rcases h with rfl | rfl <;> rfl
theorem isB_n {v : Int32} (h : isB v = true) : narrow .boolean (.int v) = .int v := by
  simp only [isB, Bool.or_eq_true, decide_eq_true_eq] at h
  rcases h with rfl | rfl <;> rfl
section RG
variable {p : Program} {l : Launch} {e : Env} {R : Room} {s : State} {m : MethodId} {args : Array Value} {below : List Frame} {meth : Method} {c : Code} {H : Heap} {locs : List Loc} {cells slots : Nat} {Q : State → Prop} {cc : ByteArray} {pc : Nat} {ls : Array Slot} {rest : List Value} {G : Geo} {x y : Mem} {H0 : Heap}
theorem gf_0_0 (hx : p.tables.exec = Jvm.exec) (hb : c.code = cc) (htg : ∀ w ∈ wsG, w.before args s = true) {own : String} {index : Nat} (hown : s.vm.findClass own = some m.cls) (hK : Kt G s) (hW : Wh G x y H) (a : Fin 10 × Fin 4) (hl : Cond.fieldLink own index "RobotCell$Arm" "number" "I" ∈ wsG) (hdg : decode cc pc = .ok (.getfield index, 3)) (kk : W p l e R s m args below meth c H locs cells slots Q (F0 m (pc + 3) ls (.int (x 0 ↑a.1 ↑a.2 0) :: rest))) : W p l e R s m args below meth c H locs cells slots Q (F0 m pc ls (.ref (gA G 0 ↑a.1 ↑a.2) :: rest)) := by
  obtain ⟨q0, h0, h2⟩ := wl_get (G := G) (x := x) (y := y) (id_0 a)
  rw [(mm_c (by decide))] at h2
  exact va_get (ci := 2) (C := RX0) (T := TX0) (N := 14) (v := .int (x 0 ↑a.1 ↑a.2 0)) hx hb htg inG_wsX00 hown hK.1 hW.1 q0 h2 rfl 0 (by decide) (htg _ hl) (fun _ h9 => h9) rfl hdg kk
theorem gf_0_1 (hx : p.tables.exec = Jvm.exec) (hb : c.code = cc) (htg : ∀ w ∈ wsG, w.before args s = true) {own : String} {index : Nat} (hown : s.vm.findClass own = some m.cls) (hK : Kt G s) (hW : Wh G x y H) (a : Fin 10 × Fin 4) (hl : Cond.fieldLink own index "RobotCell$Arm" "reach" "I" ∈ wsG) (hdg : decode cc pc = .ok (.getfield index, 3)) (kk : W p l e R s m args below meth c H locs cells slots Q (F0 m (pc + 3) ls (.int (x 0 ↑a.1 ↑a.2 1) :: rest))) : W p l e R s m args below meth c H locs cells slots Q (F0 m pc ls (.ref (gA G 0 ↑a.1 ↑a.2) :: rest)) := by
  obtain ⟨q0, h0, h2⟩ := wl_get (G := G) (x := x) (y := y) (id_0 a)
  rw [(mm_c (by decide))] at h2
  exact va_get (ci := 2) (C := RX0) (T := TX0) (N := 14) (v := .int (x 0 ↑a.1 ↑a.2 1)) hx hb htg inG_wsX00 hown hK.1 hW.1 q0 h2 rfl 1 (by decide) (htg _ hl) (fun _ h9 => h9) rfl hdg kk
theorem pf_0_1 (hx : p.tables.exec = Jvm.exec) (hb : c.code = cc) (htg : ∀ w ∈ wsG, w.before args s = true) {own : String} {index : Nat} (hown : s.vm.findClass own = some m.cls) (hK : Kt G s) (hW : Wh G x y H) (hS : va_S (gF G) H0 H locs) (a : Fin 10 × Fin 4) (hl : Cond.fieldLink own index "RobotCell$Arm" "reach" "I" ∈ wsG) {v : Int32} (hdg : decode cc pc = .ok (.putfield index, 3)) (kk : ∀ (H1 : Heap) (locs1 : List Loc), Wh G (up4 x 0 ↑a.1 ↑a.2 1 v) y H1 → va_S (gF G) H0 H1 locs1 → W p l e R s m args below meth c H1 locs1 cells slots Q (F0 m (pc + 3) ls rest)) : W p l e R s m args below meth c H locs cells slots Q (F0 m pc ls (.int v :: .ref (gA G 0 ↑a.1 ↑a.2) :: rest)) := by
  obtain ⟨q0, h0, h2⟩ := wl_get (G := G) (x := x) (y := y) (id_0 a)
  rw [(mm_c (by decide))] at h2
  have hs := wl_set_c (G := G) (x := x) (y := y) (s := 1) (v := v) (by decide) hW.2 h0
  refine va_put (ci := 2) (C := RX0) (T := TX0) (N := 14) (v := .int v) (ty := .int) hx hb htg inG_wsX00 tyX0 tyX0_ok nmX0 hown hK.1 hW.1 hW.2 hS q0 h2 rfl 1 (by decide) (htg _ hl) (fun _ h9 => h9) rfl (by decide +kernel) rfl rfl (Nat.le_of_ble_eq_true rfl) hdg (fun H1 locs1 hP hD hS => kk H1 locs1 ⟨?_, ?_⟩ hS)
  · rw [← hs]; exact hP
  · rw [← hs]; exact hD
theorem gf_0_2 (hx : p.tables.exec = Jvm.exec) (hb : c.code = cc) (htg : ∀ w ∈ wsG, w.before args s = true) {own : String} {index : Nat} (hown : s.vm.findClass own = some m.cls) (hK : Kt G s) (hW : Wh G x y H) (a : Fin 10 × Fin 4) (hl : Cond.fieldLink own index "RobotCell$Arm" "state" "I" ∈ wsG) (hdg : decode cc pc = .ok (.getfield index, 3)) (kk : W p l e R s m args below meth c H locs cells slots Q (F0 m (pc + 3) ls (.int (x 0 ↑a.1 ↑a.2 2) :: rest))) : W p l e R s m args below meth c H locs cells slots Q (F0 m pc ls (.ref (gA G 0 ↑a.1 ↑a.2) :: rest)) := by
  obtain ⟨q0, h0, h2⟩ := wl_get (G := G) (x := x) (y := y) (id_0 a)
  rw [(mm_c (by decide))] at h2
  exact va_get (ci := 2) (C := RX0) (T := TX0) (N := 14) (v := .int (x 0 ↑a.1 ↑a.2 2)) hx hb htg inG_wsX00 hown hK.1 hW.1 q0 h2 rfl 2 (by decide) (htg _ hl) (fun _ h9 => h9) rfl hdg kk
theorem pf_0_2 (hx : p.tables.exec = Jvm.exec) (hb : c.code = cc) (htg : ∀ w ∈ wsG, w.before args s = true) {own : String} {index : Nat} (hown : s.vm.findClass own = some m.cls) (hK : Kt G s) (hW : Wh G x y H) (hS : va_S (gF G) H0 H locs) (a : Fin 10 × Fin 4) (hl : Cond.fieldLink own index "RobotCell$Arm" "state" "I" ∈ wsG) {v : Int32} (hdg : decode cc pc = .ok (.putfield index, 3)) (kk : ∀ (H1 : Heap) (locs1 : List Loc), Wh G (up4 x 0 ↑a.1 ↑a.2 2 v) y H1 → va_S (gF G) H0 H1 locs1 → W p l e R s m args below meth c H1 locs1 cells slots Q (F0 m (pc + 3) ls rest)) : W p l e R s m args below meth c H locs cells slots Q (F0 m pc ls (.int v :: .ref (gA G 0 ↑a.1 ↑a.2) :: rest)) := by
  obtain ⟨q0, h0, h2⟩ := wl_get (G := G) (x := x) (y := y) (id_0 a)
  rw [(mm_c (by decide))] at h2
  have hs := wl_set_c (G := G) (x := x) (y := y) (s := 2) (v := v) (by decide) hW.2 h0
  refine va_put (ci := 2) (C := RX0) (T := TX0) (N := 14) (v := .int v) (ty := .int) hx hb htg inG_wsX00 tyX0 tyX0_ok nmX0 hown hK.1 hW.1 hW.2 hS q0 h2 rfl 2 (by decide) (htg _ hl) (fun _ h9 => h9) rfl (by decide +kernel) rfl rfl (Nat.le_of_ble_eq_true rfl) hdg (fun H1 locs1 hP hD hS => kk H1 locs1 ⟨?_, ?_⟩ hS)
  · rw [← hs]; exact hP
  · rw [← hs]; exact hD
theorem gf_0_3 (hx : p.tables.exec = Jvm.exec) (hb : c.code = cc) (htg : ∀ w ∈ wsG, w.before args s = true) {own : String} {index : Nat} (hown : s.vm.findClass own = some m.cls) (hK : Kt G s) (hW : Wh G x y H) (a : Fin 10 × Fin 4) (hl : Cond.fieldLink own index "RobotCell$Arm" "job" "I" ∈ wsG) (hdg : decode cc pc = .ok (.getfield index, 3)) (kk : W p l e R s m args below meth c H locs cells slots Q (F0 m (pc + 3) ls (.int (x 0 ↑a.1 ↑a.2 3) :: rest))) : W p l e R s m args below meth c H locs cells slots Q (F0 m pc ls (.ref (gA G 0 ↑a.1 ↑a.2) :: rest)) := by
  obtain ⟨q0, h0, h2⟩ := wl_get (G := G) (x := x) (y := y) (id_0 a)
  rw [(mm_c (by decide))] at h2
  exact va_get (ci := 2) (C := RX0) (T := TX0) (N := 14) (v := .int (x 0 ↑a.1 ↑a.2 3)) hx hb htg inG_wsX00 hown hK.1 hW.1 q0 h2 rfl 3 (by decide) (htg _ hl) (fun _ h9 => h9) rfl hdg kk
theorem pf_0_3 (hx : p.tables.exec = Jvm.exec) (hb : c.code = cc) (htg : ∀ w ∈ wsG, w.before args s = true) {own : String} {index : Nat} (hown : s.vm.findClass own = some m.cls) (hK : Kt G s) (hW : Wh G x y H) (hS : va_S (gF G) H0 H locs) (a : Fin 10 × Fin 4) (hl : Cond.fieldLink own index "RobotCell$Arm" "job" "I" ∈ wsG) {v : Int32} (hdg : decode cc pc = .ok (.putfield index, 3)) (kk : ∀ (H1 : Heap) (locs1 : List Loc), Wh G (up4 x 0 ↑a.1 ↑a.2 3 v) y H1 → va_S (gF G) H0 H1 locs1 → W p l e R s m args below meth c H1 locs1 cells slots Q (F0 m (pc + 3) ls rest)) : W p l e R s m args below meth c H locs cells slots Q (F0 m pc ls (.int v :: .ref (gA G 0 ↑a.1 ↑a.2) :: rest)) := by
  obtain ⟨q0, h0, h2⟩ := wl_get (G := G) (x := x) (y := y) (id_0 a)
  rw [(mm_c (by decide))] at h2
  have hs := wl_set_c (G := G) (x := x) (y := y) (s := 3) (v := v) (by decide) hW.2 h0
  refine va_put (ci := 2) (C := RX0) (T := TX0) (N := 14) (v := .int v) (ty := .int) hx hb htg inG_wsX00 tyX0 tyX0_ok nmX0 hown hK.1 hW.1 hW.2 hS q0 h2 rfl 3 (by decide) (htg _ hl) (fun _ h9 => h9) rfl (by decide +kernel) rfl rfl (Nat.le_of_ble_eq_true rfl) hdg (fun H1 locs1 hP hD hS => kk H1 locs1 ⟨?_, ?_⟩ hS)
  · rw [← hs]; exact hP
  · rw [← hs]; exact hD
theorem gf_0_4 (hx : p.tables.exec = Jvm.exec) (hb : c.code = cc) (htg : ∀ w ∈ wsG, w.before args s = true) {own : String} {index : Nat} (hown : s.vm.findClass own = some m.cls) (hK : Kt G s) (hW : Wh G x y H) (a : Fin 10 × Fin 4) (hl : Cond.fieldLink own index "RobotCell$Arm" "place" "I" ∈ wsG) (hdg : decode cc pc = .ok (.getfield index, 3)) (kk : W p l e R s m args below meth c H locs cells slots Q (F0 m (pc + 3) ls (.int (x 0 ↑a.1 ↑a.2 4) :: rest))) : W p l e R s m args below meth c H locs cells slots Q (F0 m pc ls (.ref (gA G 0 ↑a.1 ↑a.2) :: rest)) := by
  obtain ⟨q0, h0, h2⟩ := wl_get (G := G) (x := x) (y := y) (id_0 a)
  rw [(mm_c (by decide))] at h2
  exact va_get (ci := 2) (C := RX0) (T := TX0) (N := 14) (v := .int (x 0 ↑a.1 ↑a.2 4)) hx hb htg inG_wsX00 hown hK.1 hW.1 q0 h2 rfl 4 (by decide) (htg _ hl) (fun _ h9 => h9) rfl hdg kk
theorem pf_0_4 (hx : p.tables.exec = Jvm.exec) (hb : c.code = cc) (htg : ∀ w ∈ wsG, w.before args s = true) {own : String} {index : Nat} (hown : s.vm.findClass own = some m.cls) (hK : Kt G s) (hW : Wh G x y H) (hS : va_S (gF G) H0 H locs) (a : Fin 10 × Fin 4) (hl : Cond.fieldLink own index "RobotCell$Arm" "place" "I" ∈ wsG) {v : Int32} (hdg : decode cc pc = .ok (.putfield index, 3)) (kk : ∀ (H1 : Heap) (locs1 : List Loc), Wh G (up4 x 0 ↑a.1 ↑a.2 4 v) y H1 → va_S (gF G) H0 H1 locs1 → W p l e R s m args below meth c H1 locs1 cells slots Q (F0 m (pc + 3) ls rest)) : W p l e R s m args below meth c H locs cells slots Q (F0 m pc ls (.int v :: .ref (gA G 0 ↑a.1 ↑a.2) :: rest)) := by
  obtain ⟨q0, h0, h2⟩ := wl_get (G := G) (x := x) (y := y) (id_0 a)
  rw [(mm_c (by decide))] at h2
  have hs := wl_set_c (G := G) (x := x) (y := y) (s := 4) (v := v) (by decide) hW.2 h0
  refine va_put (ci := 2) (C := RX0) (T := TX0) (N := 14) (v := .int v) (ty := .int) hx hb htg inG_wsX00 tyX0 tyX0_ok nmX0 hown hK.1 hW.1 hW.2 hS q0 h2 rfl 4 (by decide) (htg _ hl) (fun _ h9 => h9) rfl (by decide +kernel) rfl rfl (Nat.le_of_ble_eq_true rfl) hdg (fun H1 locs1 hP hD hS => kk H1 locs1 ⟨?_, ?_⟩ hS)
  · rw [← hs]; exact hP
  · rw [← hs]; exact hD
theorem gf_0_5 (hx : p.tables.exec = Jvm.exec) (hb : c.code = cc) (htg : ∀ w ∈ wsG, w.before args s = true) {own : String} {index : Nat} (hown : s.vm.findClass own = some m.cls) (hK : Kt G s) (hW : Wh G x y H) (a : Fin 10 × Fin 4) (hl : Cond.fieldLink own index "RobotCell$Arm" "toGo" "I" ∈ wsG) (hdg : decode cc pc = .ok (.getfield index, 3)) (kk : W p l e R s m args below meth c H locs cells slots Q (F0 m (pc + 3) ls (.int (x 0 ↑a.1 ↑a.2 5) :: rest))) : W p l e R s m args below meth c H locs cells slots Q (F0 m pc ls (.ref (gA G 0 ↑a.1 ↑a.2) :: rest)) := by
  obtain ⟨q0, h0, h2⟩ := wl_get (G := G) (x := x) (y := y) (id_0 a)
  rw [(mm_c (by decide))] at h2
  exact va_get (ci := 2) (C := RX0) (T := TX0) (N := 14) (v := .int (x 0 ↑a.1 ↑a.2 5)) hx hb htg inG_wsX00 hown hK.1 hW.1 q0 h2 rfl 5 (by decide) (htg _ hl) (fun _ h9 => h9) rfl hdg kk
theorem pf_0_5 (hx : p.tables.exec = Jvm.exec) (hb : c.code = cc) (htg : ∀ w ∈ wsG, w.before args s = true) {own : String} {index : Nat} (hown : s.vm.findClass own = some m.cls) (hK : Kt G s) (hW : Wh G x y H) (hS : va_S (gF G) H0 H locs) (a : Fin 10 × Fin 4) (hl : Cond.fieldLink own index "RobotCell$Arm" "toGo" "I" ∈ wsG) {v : Int32} (hdg : decode cc pc = .ok (.putfield index, 3)) (kk : ∀ (H1 : Heap) (locs1 : List Loc), Wh G (up4 x 0 ↑a.1 ↑a.2 5 v) y H1 → va_S (gF G) H0 H1 locs1 → W p l e R s m args below meth c H1 locs1 cells slots Q (F0 m (pc + 3) ls rest)) : W p l e R s m args below meth c H locs cells slots Q (F0 m pc ls (.int v :: .ref (gA G 0 ↑a.1 ↑a.2) :: rest)) := by
  obtain ⟨q0, h0, h2⟩ := wl_get (G := G) (x := x) (y := y) (id_0 a)
  rw [(mm_c (by decide))] at h2
  have hs := wl_set_c (G := G) (x := x) (y := y) (s := 5) (v := v) (by decide) hW.2 h0
  refine va_put (ci := 2) (C := RX0) (T := TX0) (N := 14) (v := .int v) (ty := .int) hx hb htg inG_wsX00 tyX0 tyX0_ok nmX0 hown hK.1 hW.1 hW.2 hS q0 h2 rfl 5 (by decide) (htg _ hl) (fun _ h9 => h9) rfl (by decide +kernel) rfl rfl (Nat.le_of_ble_eq_true rfl) hdg (fun H1 locs1 hP hD hS => kk H1 locs1 ⟨?_, ?_⟩ hS)
  · rw [← hs]; exact hP
  · rw [← hs]; exact hD
theorem gf_0_6 (hx : p.tables.exec = Jvm.exec) (hb : c.code = cc) (htg : ∀ w ∈ wsG, w.before args s = true) {own : String} {index : Nat} (hown : s.vm.findClass own = some m.cls) (hK : Kt G s) (hW : Wh G x y H) (a : Fin 10 × Fin 4) (hl : Cond.fieldLink own index "RobotCell$Arm" "held" "I" ∈ wsG) (hdg : decode cc pc = .ok (.getfield index, 3)) (kk : W p l e R s m args below meth c H locs cells slots Q (F0 m (pc + 3) ls (.int (x 0 ↑a.1 ↑a.2 6) :: rest))) : W p l e R s m args below meth c H locs cells slots Q (F0 m pc ls (.ref (gA G 0 ↑a.1 ↑a.2) :: rest)) := by
  obtain ⟨q0, h0, h2⟩ := wl_get (G := G) (x := x) (y := y) (id_0 a)
  rw [(mm_c (by decide))] at h2
  exact va_get (ci := 2) (C := RX0) (T := TX0) (N := 14) (v := .int (x 0 ↑a.1 ↑a.2 6)) hx hb htg inG_wsX00 hown hK.1 hW.1 q0 h2 rfl 6 (by decide) (htg _ hl) (fun _ h9 => h9) rfl hdg kk
theorem pf_0_6 (hx : p.tables.exec = Jvm.exec) (hb : c.code = cc) (htg : ∀ w ∈ wsG, w.before args s = true) {own : String} {index : Nat} (hown : s.vm.findClass own = some m.cls) (hK : Kt G s) (hW : Wh G x y H) (hS : va_S (gF G) H0 H locs) (a : Fin 10 × Fin 4) (hl : Cond.fieldLink own index "RobotCell$Arm" "held" "I" ∈ wsG) {v : Int32} (hdg : decode cc pc = .ok (.putfield index, 3)) (kk : ∀ (H1 : Heap) (locs1 : List Loc), Wh G (up4 x 0 ↑a.1 ↑a.2 6 v) y H1 → va_S (gF G) H0 H1 locs1 → W p l e R s m args below meth c H1 locs1 cells slots Q (F0 m (pc + 3) ls rest)) : W p l e R s m args below meth c H locs cells slots Q (F0 m pc ls (.int v :: .ref (gA G 0 ↑a.1 ↑a.2) :: rest)) := by
  obtain ⟨q0, h0, h2⟩ := wl_get (G := G) (x := x) (y := y) (id_0 a)
  rw [(mm_c (by decide))] at h2
  have hs := wl_set_c (G := G) (x := x) (y := y) (s := 6) (v := v) (by decide) hW.2 h0
  refine va_put (ci := 2) (C := RX0) (T := TX0) (N := 14) (v := .int v) (ty := .int) hx hb htg inG_wsX00 tyX0 tyX0_ok nmX0 hown hK.1 hW.1 hW.2 hS q0 h2 rfl 6 (by decide) (htg _ hl) (fun _ h9 => h9) rfl (by decide +kernel) rfl rfl (Nat.le_of_ble_eq_true rfl) hdg (fun H1 locs1 hP hD hS => kk H1 locs1 ⟨?_, ?_⟩ hS)
  · rw [← hs]; exact hP
  · rw [← hs]; exact hD
theorem gf_0_7 (hx : p.tables.exec = Jvm.exec) (hb : c.code = cc) (htg : ∀ w ∈ wsG, w.before args s = true) {own : String} {index : Nat} (hown : s.vm.findClass own = some m.cls) (hK : Kt G s) (hW : Wh G x y H) (a : Fin 10 × Fin 4) (hl : Cond.fieldLink own index "RobotCell$Arm" "patience" "I" ∈ wsG) (hdg : decode cc pc = .ok (.getfield index, 3)) (kk : W p l e R s m args below meth c H locs cells slots Q (F0 m (pc + 3) ls (.int (x 0 ↑a.1 ↑a.2 7) :: rest))) : W p l e R s m args below meth c H locs cells slots Q (F0 m pc ls (.ref (gA G 0 ↑a.1 ↑a.2) :: rest)) := by
  obtain ⟨q0, h0, h2⟩ := wl_get (G := G) (x := x) (y := y) (id_0 a)
  rw [(mm_c (by decide))] at h2
  exact va_get (ci := 2) (C := RX0) (T := TX0) (N := 14) (v := .int (x 0 ↑a.1 ↑a.2 7)) hx hb htg inG_wsX00 hown hK.1 hW.1 q0 h2 rfl 7 (by decide) (htg _ hl) (fun _ h9 => h9) rfl hdg kk
theorem pf_0_7 (hx : p.tables.exec = Jvm.exec) (hb : c.code = cc) (htg : ∀ w ∈ wsG, w.before args s = true) {own : String} {index : Nat} (hown : s.vm.findClass own = some m.cls) (hK : Kt G s) (hW : Wh G x y H) (hS : va_S (gF G) H0 H locs) (a : Fin 10 × Fin 4) (hl : Cond.fieldLink own index "RobotCell$Arm" "patience" "I" ∈ wsG) {v : Int32} (hdg : decode cc pc = .ok (.putfield index, 3)) (kk : ∀ (H1 : Heap) (locs1 : List Loc), Wh G (up4 x 0 ↑a.1 ↑a.2 7 v) y H1 → va_S (gF G) H0 H1 locs1 → W p l e R s m args below meth c H1 locs1 cells slots Q (F0 m (pc + 3) ls rest)) : W p l e R s m args below meth c H locs cells slots Q (F0 m pc ls (.int v :: .ref (gA G 0 ↑a.1 ↑a.2) :: rest)) := by
  obtain ⟨q0, h0, h2⟩ := wl_get (G := G) (x := x) (y := y) (id_0 a)
  rw [(mm_c (by decide))] at h2
  have hs := wl_set_c (G := G) (x := x) (y := y) (s := 7) (v := v) (by decide) hW.2 h0
  refine va_put (ci := 2) (C := RX0) (T := TX0) (N := 14) (v := .int v) (ty := .int) hx hb htg inG_wsX00 tyX0 tyX0_ok nmX0 hown hK.1 hW.1 hW.2 hS q0 h2 rfl 7 (by decide) (htg _ hl) (fun _ h9 => h9) rfl (by decide +kernel) rfl rfl (Nat.le_of_ble_eq_true rfl) hdg (fun H1 locs1 hP hD hS => kk H1 locs1 ⟨?_, ?_⟩ hS)
  · rw [← hs]; exact hP
  · rw [← hs]; exact hD
theorem gf_0_8 (hx : p.tables.exec = Jvm.exec) (hb : c.code = cc) (htg : ∀ w ∈ wsG, w.before args s = true) {own : String} {index : Nat} (hown : s.vm.findClass own = some m.cls) (hK : Kt G s) (hW : Wh G x y H) (a : Fin 10 × Fin 4) (hl : Cond.fieldLink own index "RobotCell$Arm" "reason" "I" ∈ wsG) (hdg : decode cc pc = .ok (.getfield index, 3)) (kk : W p l e R s m args below meth c H locs cells slots Q (F0 m (pc + 3) ls (.int (x 0 ↑a.1 ↑a.2 8) :: rest))) : W p l e R s m args below meth c H locs cells slots Q (F0 m pc ls (.ref (gA G 0 ↑a.1 ↑a.2) :: rest)) := by
  obtain ⟨q0, h0, h2⟩ := wl_get (G := G) (x := x) (y := y) (id_0 a)
  rw [(mm_c (by decide))] at h2
  exact va_get (ci := 2) (C := RX0) (T := TX0) (N := 14) (v := .int (x 0 ↑a.1 ↑a.2 8)) hx hb htg inG_wsX00 hown hK.1 hW.1 q0 h2 rfl 8 (by decide) (htg _ hl) (fun _ h9 => h9) rfl hdg kk
theorem pf_0_8 (hx : p.tables.exec = Jvm.exec) (hb : c.code = cc) (htg : ∀ w ∈ wsG, w.before args s = true) {own : String} {index : Nat} (hown : s.vm.findClass own = some m.cls) (hK : Kt G s) (hW : Wh G x y H) (hS : va_S (gF G) H0 H locs) (a : Fin 10 × Fin 4) (hl : Cond.fieldLink own index "RobotCell$Arm" "reason" "I" ∈ wsG) {v : Int32} (hdg : decode cc pc = .ok (.putfield index, 3)) (kk : ∀ (H1 : Heap) (locs1 : List Loc), Wh G (up4 x 0 ↑a.1 ↑a.2 8 v) y H1 → va_S (gF G) H0 H1 locs1 → W p l e R s m args below meth c H1 locs1 cells slots Q (F0 m (pc + 3) ls rest)) : W p l e R s m args below meth c H locs cells slots Q (F0 m pc ls (.int v :: .ref (gA G 0 ↑a.1 ↑a.2) :: rest)) := by
  obtain ⟨q0, h0, h2⟩ := wl_get (G := G) (x := x) (y := y) (id_0 a)
  rw [(mm_c (by decide))] at h2
  have hs := wl_set_c (G := G) (x := x) (y := y) (s := 8) (v := v) (by decide) hW.2 h0
  refine va_put (ci := 2) (C := RX0) (T := TX0) (N := 14) (v := .int v) (ty := .int) hx hb htg inG_wsX00 tyX0 tyX0_ok nmX0 hown hK.1 hW.1 hW.2 hS q0 h2 rfl 8 (by decide) (htg _ hl) (fun _ h9 => h9) rfl (by decide +kernel) rfl rfl (Nat.le_of_ble_eq_true rfl) hdg (fun H1 locs1 hP hD hS => kk H1 locs1 ⟨?_, ?_⟩ hS)
  · rw [← hs]; exact hP
  · rw [← hs]; exact hD
theorem gf_0_9 (hx : p.tables.exec = Jvm.exec) (hb : c.code = cc) (htg : ∀ w ∈ wsG, w.before args s = true) {own : String} {index : Nat} (hown : s.vm.findClass own = some m.cls) (hK : Kt G s) (hW : Wh G x y H) (a : Fin 10 × Fin 4) (hl : Cond.fieldLink own index "RobotCell$Arm" "detail" "I" ∈ wsG) (hdg : decode cc pc = .ok (.getfield index, 3)) (kk : W p l e R s m args below meth c H locs cells slots Q (F0 m (pc + 3) ls (.int (x 0 ↑a.1 ↑a.2 9) :: rest))) : W p l e R s m args below meth c H locs cells slots Q (F0 m pc ls (.ref (gA G 0 ↑a.1 ↑a.2) :: rest)) := by
  obtain ⟨q0, h0, h2⟩ := wl_get (G := G) (x := x) (y := y) (id_0 a)
  rw [(mm_c (by decide))] at h2
  exact va_get (ci := 2) (C := RX0) (T := TX0) (N := 14) (v := .int (x 0 ↑a.1 ↑a.2 9)) hx hb htg inG_wsX00 hown hK.1 hW.1 q0 h2 rfl 9 (by decide) (htg _ hl) (fun _ h9 => h9) rfl hdg kk
theorem pf_0_9 (hx : p.tables.exec = Jvm.exec) (hb : c.code = cc) (htg : ∀ w ∈ wsG, w.before args s = true) {own : String} {index : Nat} (hown : s.vm.findClass own = some m.cls) (hK : Kt G s) (hW : Wh G x y H) (hS : va_S (gF G) H0 H locs) (a : Fin 10 × Fin 4) (hl : Cond.fieldLink own index "RobotCell$Arm" "detail" "I" ∈ wsG) {v : Int32} (hdg : decode cc pc = .ok (.putfield index, 3)) (kk : ∀ (H1 : Heap) (locs1 : List Loc), Wh G (up4 x 0 ↑a.1 ↑a.2 9 v) y H1 → va_S (gF G) H0 H1 locs1 → W p l e R s m args below meth c H1 locs1 cells slots Q (F0 m (pc + 3) ls rest)) : W p l e R s m args below meth c H locs cells slots Q (F0 m pc ls (.int v :: .ref (gA G 0 ↑a.1 ↑a.2) :: rest)) := by
  obtain ⟨q0, h0, h2⟩ := wl_get (G := G) (x := x) (y := y) (id_0 a)
  rw [(mm_c (by decide))] at h2
  have hs := wl_set_c (G := G) (x := x) (y := y) (s := 9) (v := v) (by decide) hW.2 h0
  refine va_put (ci := 2) (C := RX0) (T := TX0) (N := 14) (v := .int v) (ty := .int) hx hb htg inG_wsX00 tyX0 tyX0_ok nmX0 hown hK.1 hW.1 hW.2 hS q0 h2 rfl 9 (by decide) (htg _ hl) (fun _ h9 => h9) rfl (by decide +kernel) rfl rfl (Nat.le_of_ble_eq_true rfl) hdg (fun H1 locs1 hP hD hS => kk H1 locs1 ⟨?_, ?_⟩ hS)
  · rw [← hs]; exact hP
  · rw [← hs]; exact hD
theorem gf_0_10 (hx : p.tables.exec = Jvm.exec) (hb : c.code = cc) (htg : ∀ w ∈ wsG, w.before args s = true) {own : String} {index : Nat} (hown : s.vm.findClass own = some m.cls) (hK : Kt G s) (hW : Wh G x y H) (a : Fin 10 × Fin 4) (hl : Cond.fieldLink own index "RobotCell$Arm" "refused" "I" ∈ wsG) (hdg : decode cc pc = .ok (.getfield index, 3)) (kk : W p l e R s m args below meth c H locs cells slots Q (F0 m (pc + 3) ls (.int (x 0 ↑a.1 ↑a.2 10) :: rest))) : W p l e R s m args below meth c H locs cells slots Q (F0 m pc ls (.ref (gA G 0 ↑a.1 ↑a.2) :: rest)) := by
  obtain ⟨q0, h0, h2⟩ := wl_get (G := G) (x := x) (y := y) (id_0 a)
  rw [(mm_c (by decide))] at h2
  exact va_get (ci := 2) (C := RX0) (T := TX0) (N := 14) (v := .int (x 0 ↑a.1 ↑a.2 10)) hx hb htg inG_wsX00 hown hK.1 hW.1 q0 h2 rfl 10 (by decide) (htg _ hl) (fun _ h9 => h9) rfl hdg kk
theorem pf_0_10 (hx : p.tables.exec = Jvm.exec) (hb : c.code = cc) (htg : ∀ w ∈ wsG, w.before args s = true) {own : String} {index : Nat} (hown : s.vm.findClass own = some m.cls) (hK : Kt G s) (hW : Wh G x y H) (hS : va_S (gF G) H0 H locs) (a : Fin 10 × Fin 4) (hl : Cond.fieldLink own index "RobotCell$Arm" "refused" "I" ∈ wsG) {v : Int32} (hdg : decode cc pc = .ok (.putfield index, 3)) (kk : ∀ (H1 : Heap) (locs1 : List Loc), Wh G (up4 x 0 ↑a.1 ↑a.2 10 v) y H1 → va_S (gF G) H0 H1 locs1 → W p l e R s m args below meth c H1 locs1 cells slots Q (F0 m (pc + 3) ls rest)) : W p l e R s m args below meth c H locs cells slots Q (F0 m pc ls (.int v :: .ref (gA G 0 ↑a.1 ↑a.2) :: rest)) := by
  obtain ⟨q0, h0, h2⟩ := wl_get (G := G) (x := x) (y := y) (id_0 a)
  rw [(mm_c (by decide))] at h2
  have hs := wl_set_c (G := G) (x := x) (y := y) (s := 10) (v := v) (by decide) hW.2 h0
  refine va_put (ci := 2) (C := RX0) (T := TX0) (N := 14) (v := .int v) (ty := .int) hx hb htg inG_wsX00 tyX0 tyX0_ok nmX0 hown hK.1 hW.1 hW.2 hS q0 h2 rfl 10 (by decide) (htg _ hl) (fun _ h9 => h9) rfl (by decide +kernel) rfl rfl (Nat.le_of_ble_eq_true rfl) hdg (fun H1 locs1 hP hD hS => kk H1 locs1 ⟨?_, ?_⟩ hS)
  · rw [← hs]; exact hP
  · rw [← hs]; exact hD
theorem gf_0_11 (hx : p.tables.exec = Jvm.exec) (hb : c.code = cc) (htg : ∀ w ∈ wsG, w.before args s = true) {own : String} {index : Nat} (hown : s.vm.findClass own = some m.cls) (hK : Kt G s) (hW : Wh G x y H) (a : Fin 10 × Fin 4) (hl : Cond.fieldLink own index "RobotCell$Arm" "busyTicks" "I" ∈ wsG) (hdg : decode cc pc = .ok (.getfield index, 3)) (kk : W p l e R s m args below meth c H locs cells slots Q (F0 m (pc + 3) ls (.int (x 0 ↑a.1 ↑a.2 11) :: rest))) : W p l e R s m args below meth c H locs cells slots Q (F0 m pc ls (.ref (gA G 0 ↑a.1 ↑a.2) :: rest)) := by
  obtain ⟨q0, h0, h2⟩ := wl_get (G := G) (x := x) (y := y) (id_0 a)
  rw [(mm_c (by decide))] at h2
  exact va_get (ci := 2) (C := RX0) (T := TX0) (N := 14) (v := .int (x 0 ↑a.1 ↑a.2 11)) hx hb htg inG_wsX00 hown hK.1 hW.1 q0 h2 rfl 11 (by decide) (htg _ hl) (fun _ h9 => h9) rfl hdg kk
theorem pf_0_11 (hx : p.tables.exec = Jvm.exec) (hb : c.code = cc) (htg : ∀ w ∈ wsG, w.before args s = true) {own : String} {index : Nat} (hown : s.vm.findClass own = some m.cls) (hK : Kt G s) (hW : Wh G x y H) (hS : va_S (gF G) H0 H locs) (a : Fin 10 × Fin 4) (hl : Cond.fieldLink own index "RobotCell$Arm" "busyTicks" "I" ∈ wsG) {v : Int32} (hdg : decode cc pc = .ok (.putfield index, 3)) (kk : ∀ (H1 : Heap) (locs1 : List Loc), Wh G (up4 x 0 ↑a.1 ↑a.2 11 v) y H1 → va_S (gF G) H0 H1 locs1 → W p l e R s m args below meth c H1 locs1 cells slots Q (F0 m (pc + 3) ls rest)) : W p l e R s m args below meth c H locs cells slots Q (F0 m pc ls (.int v :: .ref (gA G 0 ↑a.1 ↑a.2) :: rest)) := by
  obtain ⟨q0, h0, h2⟩ := wl_get (G := G) (x := x) (y := y) (id_0 a)
  rw [(mm_c (by decide))] at h2
  have hs := wl_set_c (G := G) (x := x) (y := y) (s := 11) (v := v) (by decide) hW.2 h0
  refine va_put (ci := 2) (C := RX0) (T := TX0) (N := 14) (v := .int v) (ty := .int) hx hb htg inG_wsX00 tyX0 tyX0_ok nmX0 hown hK.1 hW.1 hW.2 hS q0 h2 rfl 11 (by decide) (htg _ hl) (fun _ h9 => h9) rfl (by decide +kernel) rfl rfl (Nat.le_of_ble_eq_true rfl) hdg (fun H1 locs1 hP hD hS => kk H1 locs1 ⟨?_, ?_⟩ hS)
  · rw [← hs]; exact hP
  · rw [← hs]; exact hD
theorem gf_0_12 (hx : p.tables.exec = Jvm.exec) (hb : c.code = cc) (htg : ∀ w ∈ wsG, w.before args s = true) {own : String} {index : Nat} (hown : s.vm.findClass own = some m.cls) (hK : Kt G s) (hW : Wh G x y H) (a : Fin 10 × Fin 4) (hl : Cond.fieldLink own index "RobotCell$Arm" "rowLength" "I" ∈ wsG) (hdg : decode cc pc = .ok (.getfield index, 3)) (kk : W p l e R s m args below meth c H locs cells slots Q (F0 m (pc + 3) ls (.int (x 0 ↑a.1 ↑a.2 12) :: rest))) : W p l e R s m args below meth c H locs cells slots Q (F0 m pc ls (.ref (gA G 0 ↑a.1 ↑a.2) :: rest)) := by
  obtain ⟨q0, h0, h2⟩ := wl_get (G := G) (x := x) (y := y) (id_0 a)
  rw [(mm_c (by decide))] at h2
  exact va_get (ci := 2) (C := RX0) (T := TX0) (N := 14) (v := .int (x 0 ↑a.1 ↑a.2 12)) hx hb htg inG_wsX00 hown hK.1 hW.1 q0 h2 rfl 12 (by decide) (htg _ hl) (fun _ h9 => h9) rfl hdg kk
theorem pf_0_12 (hx : p.tables.exec = Jvm.exec) (hb : c.code = cc) (htg : ∀ w ∈ wsG, w.before args s = true) {own : String} {index : Nat} (hown : s.vm.findClass own = some m.cls) (hK : Kt G s) (hW : Wh G x y H) (hS : va_S (gF G) H0 H locs) (a : Fin 10 × Fin 4) (hl : Cond.fieldLink own index "RobotCell$Arm" "rowLength" "I" ∈ wsG) {v : Int32} (hdg : decode cc pc = .ok (.putfield index, 3)) (kk : ∀ (H1 : Heap) (locs1 : List Loc), Wh G (up4 x 0 ↑a.1 ↑a.2 12 v) y H1 → va_S (gF G) H0 H1 locs1 → W p l e R s m args below meth c H1 locs1 cells slots Q (F0 m (pc + 3) ls rest)) : W p l e R s m args below meth c H locs cells slots Q (F0 m pc ls (.int v :: .ref (gA G 0 ↑a.1 ↑a.2) :: rest)) := by
  obtain ⟨q0, h0, h2⟩ := wl_get (G := G) (x := x) (y := y) (id_0 a)
  rw [(mm_c (by decide))] at h2
  have hs := wl_set_c (G := G) (x := x) (y := y) (s := 12) (v := v) (by decide) hW.2 h0
  refine va_put (ci := 2) (C := RX0) (T := TX0) (N := 14) (v := .int v) (ty := .int) hx hb htg inG_wsX00 tyX0 tyX0_ok nmX0 hown hK.1 hW.1 hW.2 hS q0 h2 rfl 12 (by decide) (htg _ hl) (fun _ h9 => h9) rfl (by decide +kernel) rfl rfl (Nat.le_of_ble_eq_true rfl) hdg (fun H1 locs1 hP hD hS => kk H1 locs1 ⟨?_, ?_⟩ hS)
  · rw [← hs]; exact hP
  · rw [← hs]; exact hD
theorem gf_0_13 (hx : p.tables.exec = Jvm.exec) (hb : c.code = cc) (htg : ∀ w ∈ wsG, w.before args s = true) {own : String} {index : Nat} (hown : s.vm.findClass own = some m.cls) (hK : Kt G s) (hW : Wh G x y H) (a : Fin 10 × Fin 4) (hl : Cond.fieldLink own index "RobotCell$Arm" "row" "[I" ∈ wsG) (hdg : decode cc pc = .ok (.getfield index, 3)) (kk : W p l e R s m args below meth c H locs cells slots Q (F0 m (pc + 3) ls (.ref (gA G 1 ↑a.1 ↑a.2) :: rest))) : W p l e R s m args below meth c H locs cells slots Q (F0 m pc ls (.ref (gA G 0 ↑a.1 ↑a.2) :: rest)) := by
  obtain ⟨q0, h0, h2⟩ := wl_get (G := G) (x := x) (y := y) (id_0 a)
  rw [(mm_c (by decide))] at h2
  exact va_get (ci := 2) (C := RX0) (T := TX0) (N := 14) (v := .ref (gA G 1 ↑a.1 ↑a.2)) hx hb htg inG_wsX00 hown hK.1 hW.1 q0 h2 rfl 13 (by decide) (htg _ hl) (fun _ h9 => h9) rfl hdg kk
theorem rc_0 (hK : Kt G s) (hW : Wh G x y H) (a : Fin 10 × Fin 4) : ∃ cell : Cell, H[(gA G 0 ↑a.1 ↑a.2)]? = some cell ∧ cell.vm.isStatics = false ∧ s.vm.findClass RX0 = some cell.cls := by
  obtain ⟨q0, h0, h2⟩ := wl_get (G := G) (x := x) (y := y) (id_0 a)
  exact va_recv hK.1 hW.1 (ci := 2) (q := (RX0, TX0, 14)) rfl h2
theorem al_1 (hx : p.tables.exec = Jvm.exec) (hb : c.code = cc) (hK : Kt G s) (hW : Wh G x y H) (a : Fin 10 × Fin 4) {i : Int32} (hin : vp_in i 30) (hdg : decode cc pc = .ok (.iaload, 1)) (kk : W p l e R s m args below meth c H locs cells slots Q (F0 m (pc + 1) ls (.int (x 1 ↑a.1 ↑a.2 i.toNatClampNeg) :: rest))) : W p l e R s m args below meth c H locs cells slots Q (F0 m pc ls (.int i :: .ref (gA G 1 ↑a.1 ↑a.2) :: rest)) := by
  obtain ⟨q0, h0, h2⟩ := wl_get (G := G) (x := x) (y := y) (id_1 a)
  rw [(mm_c (by decide))] at h2
  exact va_iald hx hb hK.1 hW.1 q0 0 h2 rfl hin hdg kk
theorem as_1 (hx : p.tables.exec = Jvm.exec) (hb : c.code = cc) (hK : Kt G s) (hW : Wh G x y H) (hS : va_S (gF G) H0 H locs) (a : Fin 10 × Fin 4) {i v : Int32} (hin : vp_in i 30) (hdg : decode cc pc = .ok (.iastore, 1)) (kk : ∀ (H1 : Heap) (locs1 : List Loc), Wh G (up4 x 1 ↑a.1 ↑a.2 i.toNatClampNeg v) y H1 → va_S (gF G) H0 H1 locs1 → W p l e R s m args below meth c H1 locs1 cells slots Q (F0 m (pc + 1) ls rest)) : W p l e R s m args below meth c H locs cells slots Q (F0 m pc ls (.int v :: .int i :: .ref (gA G 1 ↑a.1 ↑a.2) :: rest)) := by
  obtain ⟨q0, h0, h2⟩ := wl_get (G := G) (x := x) (y := y) (id_1 a)
  rw [(mm_c (by decide))] at h2
  have hs := wl_set_c (G := G) (x := x) (y := y) (s := i.toNatClampNeg) (v := v) (by decide) hW.2 h0
  refine va_iast hx hb hK.1 hW.1 hW.2 hS q0 0 h2 rfl hin hdg (fun H1 locs1 hP hD hS => kk H1 locs1 ⟨?_, ?_⟩ hS)
  · rw [← hs]; exact hP
  · rw [← hs]; exact hD
theorem an_1 (hx : p.tables.exec = Jvm.exec) (hb : c.code = cc) (hK : Kt G s) (hW : Wh G x y H) (a : Fin 10 × Fin 4) (hdg : decode cc pc = .ok (.arraylength, 1)) (kk : W p l e R s m args below meth c H locs cells slots Q (F0 m (pc + 1) ls (.int 30 :: rest))) : W p l e R s m args below meth c H locs cells slots Q (F0 m pc ls (.ref (gA G 1 ↑a.1 ↑a.2) :: rest)) := by
  obtain ⟨q0, h0, h2⟩ := wl_get (G := G) (x := x) (y := y) (id_1 a)
  exact va_alen hx hb hK.1 hW.1 q0 0 h2 rfl rfl hdg kk
theorem gf_2_0 (hx : p.tables.exec = Jvm.exec) (hb : c.code = cc) (htg : ∀ w ∈ wsG, w.before args s = true) {own : String} {index : Nat} (hown : s.vm.findClass own = some m.cls) (hK : Kt G s) (hW : Wh G x y H) (a : Fin 10) (hl : Cond.fieldLink own index "RobotCell$Cell" "time" "I" ∈ wsG) (hdg : decode cc pc = .ok (.getfield index, 3)) (kk : W p l e R s m args below meth c H locs cells slots Q (F0 m (pc + 3) ls (.int (x 2 ↑a 0 0) :: rest))) : W p l e R s m args below meth c H locs cells slots Q (F0 m pc ls (.ref (gA G 2 ↑a 0) :: rest)) := by
  obtain ⟨q0, h0, h2⟩ := wl_get (G := G) (x := x) (y := y) (id_2 a)
  rw [(mm_c (by decide))] at h2
  exact va_get (ci := 3) (C := RX1) (T := TX1) (N := 15) (v := .int (x 2 ↑a 0 0)) hx hb htg inG_wsX10 hown hK.1 hW.1 q0 h2 rfl 0 (by decide) (htg _ hl) (fun _ h9 => h9) rfl hdg kk
theorem pf_2_0 (hx : p.tables.exec = Jvm.exec) (hb : c.code = cc) (htg : ∀ w ∈ wsG, w.before args s = true) {own : String} {index : Nat} (hown : s.vm.findClass own = some m.cls) (hK : Kt G s) (hW : Wh G x y H) (hS : va_S (gF G) H0 H locs) (a : Fin 10) (hl : Cond.fieldLink own index "RobotCell$Cell" "time" "I" ∈ wsG) {v : Int32} (hdg : decode cc pc = .ok (.putfield index, 3)) (kk : ∀ (H1 : Heap) (locs1 : List Loc), Wh G (up4 x 2 ↑a 0 0 v) y H1 → va_S (gF G) H0 H1 locs1 → W p l e R s m args below meth c H1 locs1 cells slots Q (F0 m (pc + 3) ls rest)) : W p l e R s m args below meth c H locs cells slots Q (F0 m pc ls (.int v :: .ref (gA G 2 ↑a 0) :: rest)) := by
  obtain ⟨q0, h0, h2⟩ := wl_get (G := G) (x := x) (y := y) (id_2 a)
  rw [(mm_c (by decide))] at h2
  have hs := wl_set_c (G := G) (x := x) (y := y) (s := 0) (v := v) (by decide) hW.2 h0
  refine va_put (ci := 3) (C := RX1) (T := TX1) (N := 15) (v := .int v) (ty := .int) hx hb htg inG_wsX10 tyX1 tyX1_ok nmX1 hown hK.1 hW.1 hW.2 hS q0 h2 rfl 0 (by decide) (htg _ hl) (fun _ h9 => h9) rfl (by decide +kernel) rfl rfl (Nat.le_of_ble_eq_true rfl) hdg (fun H1 locs1 hP hD hS => kk H1 locs1 ⟨?_, ?_⟩ hS)
  · rw [← hs]; exact hP
  · rw [← hs]; exact hD
theorem gf_2_1 (hx : p.tables.exec = Jvm.exec) (hb : c.code = cc) (htg : ∀ w ∈ wsG, w.before args s = true) {own : String} {index : Nat} (hown : s.vm.findClass own = some m.cls) (hK : Kt G s) (hW : Wh G x y H) (a : Fin 10) (hl : Cond.fieldLink own index "RobotCell$Cell" "given" "I" ∈ wsG) (hdg : decode cc pc = .ok (.getfield index, 3)) (kk : W p l e R s m args below meth c H locs cells slots Q (F0 m (pc + 3) ls (.int (x 2 ↑a 0 1) :: rest))) : W p l e R s m args below meth c H locs cells slots Q (F0 m pc ls (.ref (gA G 2 ↑a 0) :: rest)) := by
  obtain ⟨q0, h0, h2⟩ := wl_get (G := G) (x := x) (y := y) (id_2 a)
  rw [(mm_c (by decide))] at h2
  exact va_get (ci := 3) (C := RX1) (T := TX1) (N := 15) (v := .int (x 2 ↑a 0 1)) hx hb htg inG_wsX10 hown hK.1 hW.1 q0 h2 rfl 1 (by decide) (htg _ hl) (fun _ h9 => h9) rfl hdg kk
theorem pf_2_1 (hx : p.tables.exec = Jvm.exec) (hb : c.code = cc) (htg : ∀ w ∈ wsG, w.before args s = true) {own : String} {index : Nat} (hown : s.vm.findClass own = some m.cls) (hK : Kt G s) (hW : Wh G x y H) (hS : va_S (gF G) H0 H locs) (a : Fin 10) (hl : Cond.fieldLink own index "RobotCell$Cell" "given" "I" ∈ wsG) {v : Int32} (hdg : decode cc pc = .ok (.putfield index, 3)) (kk : ∀ (H1 : Heap) (locs1 : List Loc), Wh G (up4 x 2 ↑a 0 1 v) y H1 → va_S (gF G) H0 H1 locs1 → W p l e R s m args below meth c H1 locs1 cells slots Q (F0 m (pc + 3) ls rest)) : W p l e R s m args below meth c H locs cells slots Q (F0 m pc ls (.int v :: .ref (gA G 2 ↑a 0) :: rest)) := by
  obtain ⟨q0, h0, h2⟩ := wl_get (G := G) (x := x) (y := y) (id_2 a)
  rw [(mm_c (by decide))] at h2
  have hs := wl_set_c (G := G) (x := x) (y := y) (s := 1) (v := v) (by decide) hW.2 h0
  refine va_put (ci := 3) (C := RX1) (T := TX1) (N := 15) (v := .int v) (ty := .int) hx hb htg inG_wsX10 tyX1 tyX1_ok nmX1 hown hK.1 hW.1 hW.2 hS q0 h2 rfl 1 (by decide) (htg _ hl) (fun _ h9 => h9) rfl (by decide +kernel) rfl rfl (Nat.le_of_ble_eq_true rfl) hdg (fun H1 locs1 hP hD hS => kk H1 locs1 ⟨?_, ?_⟩ hS)
  · rw [← hs]; exact hP
  · rw [← hs]; exact hD
theorem gf_2_2 (hx : p.tables.exec = Jvm.exec) (hb : c.code = cc) (htg : ∀ w ∈ wsG, w.before args s = true) {own : String} {index : Nat} (hown : s.vm.findClass own = some m.cls) (hK : Kt G s) (hW : Wh G x y H) (a : Fin 10) (hl : Cond.fieldLink own index "RobotCell$Cell" "ended" "I" ∈ wsG) (hdg : decode cc pc = .ok (.getfield index, 3)) (kk : W p l e R s m args below meth c H locs cells slots Q (F0 m (pc + 3) ls (.int (x 2 ↑a 0 2) :: rest))) : W p l e R s m args below meth c H locs cells slots Q (F0 m pc ls (.ref (gA G 2 ↑a 0) :: rest)) := by
  obtain ⟨q0, h0, h2⟩ := wl_get (G := G) (x := x) (y := y) (id_2 a)
  rw [(mm_c (by decide))] at h2
  exact va_get (ci := 3) (C := RX1) (T := TX1) (N := 15) (v := .int (x 2 ↑a 0 2)) hx hb htg inG_wsX10 hown hK.1 hW.1 q0 h2 rfl 2 (by decide) (htg _ hl) (fun _ h9 => h9) rfl hdg kk
theorem pf_2_2 (hx : p.tables.exec = Jvm.exec) (hb : c.code = cc) (htg : ∀ w ∈ wsG, w.before args s = true) {own : String} {index : Nat} (hown : s.vm.findClass own = some m.cls) (hK : Kt G s) (hW : Wh G x y H) (hS : va_S (gF G) H0 H locs) (a : Fin 10) (hl : Cond.fieldLink own index "RobotCell$Cell" "ended" "I" ∈ wsG) {v : Int32} (hdg : decode cc pc = .ok (.putfield index, 3)) (kk : ∀ (H1 : Heap) (locs1 : List Loc), Wh G (up4 x 2 ↑a 0 2 v) y H1 → va_S (gF G) H0 H1 locs1 → W p l e R s m args below meth c H1 locs1 cells slots Q (F0 m (pc + 3) ls rest)) : W p l e R s m args below meth c H locs cells slots Q (F0 m pc ls (.int v :: .ref (gA G 2 ↑a 0) :: rest)) := by
  obtain ⟨q0, h0, h2⟩ := wl_get (G := G) (x := x) (y := y) (id_2 a)
  rw [(mm_c (by decide))] at h2
  have hs := wl_set_c (G := G) (x := x) (y := y) (s := 2) (v := v) (by decide) hW.2 h0
  refine va_put (ci := 3) (C := RX1) (T := TX1) (N := 15) (v := .int v) (ty := .int) hx hb htg inG_wsX10 tyX1 tyX1_ok nmX1 hown hK.1 hW.1 hW.2 hS q0 h2 rfl 2 (by decide) (htg _ hl) (fun _ h9 => h9) rfl (by decide +kernel) rfl rfl (Nat.le_of_ble_eq_true rfl) hdg (fun H1 locs1 hP hD hS => kk H1 locs1 ⟨?_, ?_⟩ hS)
  · rw [← hs]; exact hP
  · rw [← hs]; exact hD
theorem gf_2_3 (hx : p.tables.exec = Jvm.exec) (hb : c.code = cc) (htg : ∀ w ∈ wsG, w.before args s = true) {own : String} {index : Nat} (hown : s.vm.findClass own = some m.cls) (hK : Kt G s) (hW : Wh G x y H) (a : Fin 10) (hl : Cond.fieldLink own index "RobotCell$Cell" "withdrawn" "I" ∈ wsG) (hdg : decode cc pc = .ok (.getfield index, 3)) (kk : W p l e R s m args below meth c H locs cells slots Q (F0 m (pc + 3) ls (.int (x 2 ↑a 0 3) :: rest))) : W p l e R s m args below meth c H locs cells slots Q (F0 m pc ls (.ref (gA G 2 ↑a 0) :: rest)) := by
  obtain ⟨q0, h0, h2⟩ := wl_get (G := G) (x := x) (y := y) (id_2 a)
  rw [(mm_c (by decide))] at h2
  exact va_get (ci := 3) (C := RX1) (T := TX1) (N := 15) (v := .int (x 2 ↑a 0 3)) hx hb htg inG_wsX10 hown hK.1 hW.1 q0 h2 rfl 3 (by decide) (htg _ hl) (fun _ h9 => h9) rfl hdg kk
theorem pf_2_3 (hx : p.tables.exec = Jvm.exec) (hb : c.code = cc) (htg : ∀ w ∈ wsG, w.before args s = true) {own : String} {index : Nat} (hown : s.vm.findClass own = some m.cls) (hK : Kt G s) (hW : Wh G x y H) (hS : va_S (gF G) H0 H locs) (a : Fin 10) (hl : Cond.fieldLink own index "RobotCell$Cell" "withdrawn" "I" ∈ wsG) {v : Int32} (hdg : decode cc pc = .ok (.putfield index, 3)) (kk : ∀ (H1 : Heap) (locs1 : List Loc), Wh G (up4 x 2 ↑a 0 3 v) y H1 → va_S (gF G) H0 H1 locs1 → W p l e R s m args below meth c H1 locs1 cells slots Q (F0 m (pc + 3) ls rest)) : W p l e R s m args below meth c H locs cells slots Q (F0 m pc ls (.int v :: .ref (gA G 2 ↑a 0) :: rest)) := by
  obtain ⟨q0, h0, h2⟩ := wl_get (G := G) (x := x) (y := y) (id_2 a)
  rw [(mm_c (by decide))] at h2
  have hs := wl_set_c (G := G) (x := x) (y := y) (s := 3) (v := v) (by decide) hW.2 h0
  refine va_put (ci := 3) (C := RX1) (T := TX1) (N := 15) (v := .int v) (ty := .int) hx hb htg inG_wsX10 tyX1 tyX1_ok nmX1 hown hK.1 hW.1 hW.2 hS q0 h2 rfl 3 (by decide) (htg _ hl) (fun _ h9 => h9) rfl (by decide +kernel) rfl rfl (Nat.le_of_ble_eq_true rfl) hdg (fun H1 locs1 hP hD hS => kk H1 locs1 ⟨?_, ?_⟩ hS)
  · rw [← hs]; exact hP
  · rw [← hs]; exact hD
theorem gf_2_4 (hx : p.tables.exec = Jvm.exec) (hb : c.code = cc) (htg : ∀ w ∈ wsG, w.before args s = true) {own : String} {index : Nat} (hown : s.vm.findClass own = some m.cls) (hK : Kt G s) (hW : Wh G x y H) (a : Fin 10) (hl : Cond.fieldLink own index "RobotCell$Cell" "newParts" "I" ∈ wsG) (hdg : decode cc pc = .ok (.getfield index, 3)) (kk : W p l e R s m args below meth c H locs cells slots Q (F0 m (pc + 3) ls (.int (x 2 ↑a 0 4) :: rest))) : W p l e R s m args below meth c H locs cells slots Q (F0 m pc ls (.ref (gA G 2 ↑a 0) :: rest)) := by
  obtain ⟨q0, h0, h2⟩ := wl_get (G := G) (x := x) (y := y) (id_2 a)
  rw [(mm_c (by decide))] at h2
  exact va_get (ci := 3) (C := RX1) (T := TX1) (N := 15) (v := .int (x 2 ↑a 0 4)) hx hb htg inG_wsX10 hown hK.1 hW.1 q0 h2 rfl 4 (by decide) (htg _ hl) (fun _ h9 => h9) rfl hdg kk
theorem pf_2_4 (hx : p.tables.exec = Jvm.exec) (hb : c.code = cc) (htg : ∀ w ∈ wsG, w.before args s = true) {own : String} {index : Nat} (hown : s.vm.findClass own = some m.cls) (hK : Kt G s) (hW : Wh G x y H) (hS : va_S (gF G) H0 H locs) (a : Fin 10) (hl : Cond.fieldLink own index "RobotCell$Cell" "newParts" "I" ∈ wsG) {v : Int32} (hdg : decode cc pc = .ok (.putfield index, 3)) (kk : ∀ (H1 : Heap) (locs1 : List Loc), Wh G (up4 x 2 ↑a 0 4 v) y H1 → va_S (gF G) H0 H1 locs1 → W p l e R s m args below meth c H1 locs1 cells slots Q (F0 m (pc + 3) ls rest)) : W p l e R s m args below meth c H locs cells slots Q (F0 m pc ls (.int v :: .ref (gA G 2 ↑a 0) :: rest)) := by
  obtain ⟨q0, h0, h2⟩ := wl_get (G := G) (x := x) (y := y) (id_2 a)
  rw [(mm_c (by decide))] at h2
  have hs := wl_set_c (G := G) (x := x) (y := y) (s := 4) (v := v) (by decide) hW.2 h0
  refine va_put (ci := 3) (C := RX1) (T := TX1) (N := 15) (v := .int v) (ty := .int) hx hb htg inG_wsX10 tyX1 tyX1_ok nmX1 hown hK.1 hW.1 hW.2 hS q0 h2 rfl 4 (by decide) (htg _ hl) (fun _ h9 => h9) rfl (by decide +kernel) rfl rfl (Nat.le_of_ble_eq_true rfl) hdg (fun H1 locs1 hP hD hS => kk H1 locs1 ⟨?_, ?_⟩ hS)
  · rw [← hs]; exact hP
  · rw [← hs]; exact hD
theorem gf_2_5 (hx : p.tables.exec = Jvm.exec) (hb : c.code = cc) (htg : ∀ w ∈ wsG, w.before args s = true) {own : String} {index : Nat} (hown : s.vm.findClass own = some m.cls) (hK : Kt G s) (hW : Wh G x y H) (a : Fin 10) (hl : Cond.fieldLink own index "RobotCell$Cell" "goneParts" "I" ∈ wsG) (hdg : decode cc pc = .ok (.getfield index, 3)) (kk : W p l e R s m args below meth c H locs cells slots Q (F0 m (pc + 3) ls (.int (x 2 ↑a 0 5) :: rest))) : W p l e R s m args below meth c H locs cells slots Q (F0 m pc ls (.ref (gA G 2 ↑a 0) :: rest)) := by
  obtain ⟨q0, h0, h2⟩ := wl_get (G := G) (x := x) (y := y) (id_2 a)
  rw [(mm_c (by decide))] at h2
  exact va_get (ci := 3) (C := RX1) (T := TX1) (N := 15) (v := .int (x 2 ↑a 0 5)) hx hb htg inG_wsX10 hown hK.1 hW.1 q0 h2 rfl 5 (by decide) (htg _ hl) (fun _ h9 => h9) rfl hdg kk
theorem pf_2_5 (hx : p.tables.exec = Jvm.exec) (hb : c.code = cc) (htg : ∀ w ∈ wsG, w.before args s = true) {own : String} {index : Nat} (hown : s.vm.findClass own = some m.cls) (hK : Kt G s) (hW : Wh G x y H) (hS : va_S (gF G) H0 H locs) (a : Fin 10) (hl : Cond.fieldLink own index "RobotCell$Cell" "goneParts" "I" ∈ wsG) {v : Int32} (hdg : decode cc pc = .ok (.putfield index, 3)) (kk : ∀ (H1 : Heap) (locs1 : List Loc), Wh G (up4 x 2 ↑a 0 5 v) y H1 → va_S (gF G) H0 H1 locs1 → W p l e R s m args below meth c H1 locs1 cells slots Q (F0 m (pc + 3) ls rest)) : W p l e R s m args below meth c H locs cells slots Q (F0 m pc ls (.int v :: .ref (gA G 2 ↑a 0) :: rest)) := by
  obtain ⟨q0, h0, h2⟩ := wl_get (G := G) (x := x) (y := y) (id_2 a)
  rw [(mm_c (by decide))] at h2
  have hs := wl_set_c (G := G) (x := x) (y := y) (s := 5) (v := v) (by decide) hW.2 h0
  refine va_put (ci := 3) (C := RX1) (T := TX1) (N := 15) (v := .int v) (ty := .int) hx hb htg inG_wsX10 tyX1 tyX1_ok nmX1 hown hK.1 hW.1 hW.2 hS q0 h2 rfl 5 (by decide) (htg _ hl) (fun _ h9 => h9) rfl (by decide +kernel) rfl rfl (Nat.le_of_ble_eq_true rfl) hdg (fun H1 locs1 hP hD hS => kk H1 locs1 ⟨?_, ?_⟩ hS)
  · rw [← hs]; exact hP
  · rw [← hs]; exact hD
theorem gf_2_6 (hx : p.tables.exec = Jvm.exec) (hb : c.code = cc) (htg : ∀ w ∈ wsG, w.before args s = true) {own : String} {index : Nat} (hown : s.vm.findClass own = some m.cls) (hK : Kt G s) (hW : Wh G x y H) (a : Fin 10) (hl : Cond.fieldLink own index "RobotCell$Cell" "durations" "I" ∈ wsG) (hdg : decode cc pc = .ok (.getfield index, 3)) (kk : W p l e R s m args below meth c H locs cells slots Q (F0 m (pc + 3) ls (.int (x 2 ↑a 0 6) :: rest))) : W p l e R s m args below meth c H locs cells slots Q (F0 m pc ls (.ref (gA G 2 ↑a 0) :: rest)) := by
  obtain ⟨q0, h0, h2⟩ := wl_get (G := G) (x := x) (y := y) (id_2 a)
  rw [(mm_c (by decide))] at h2
  exact va_get (ci := 3) (C := RX1) (T := TX1) (N := 15) (v := .int (x 2 ↑a 0 6)) hx hb htg inG_wsX10 hown hK.1 hW.1 q0 h2 rfl 6 (by decide) (htg _ hl) (fun _ h9 => h9) rfl hdg kk
theorem pf_2_6 (hx : p.tables.exec = Jvm.exec) (hb : c.code = cc) (htg : ∀ w ∈ wsG, w.before args s = true) {own : String} {index : Nat} (hown : s.vm.findClass own = some m.cls) (hK : Kt G s) (hW : Wh G x y H) (hS : va_S (gF G) H0 H locs) (a : Fin 10) (hl : Cond.fieldLink own index "RobotCell$Cell" "durations" "I" ∈ wsG) {v : Int32} (hdg : decode cc pc = .ok (.putfield index, 3)) (kk : ∀ (H1 : Heap) (locs1 : List Loc), Wh G (up4 x 2 ↑a 0 6 v) y H1 → va_S (gF G) H0 H1 locs1 → W p l e R s m args below meth c H1 locs1 cells slots Q (F0 m (pc + 3) ls rest)) : W p l e R s m args below meth c H locs cells slots Q (F0 m pc ls (.int v :: .ref (gA G 2 ↑a 0) :: rest)) := by
  obtain ⟨q0, h0, h2⟩ := wl_get (G := G) (x := x) (y := y) (id_2 a)
  rw [(mm_c (by decide))] at h2
  have hs := wl_set_c (G := G) (x := x) (y := y) (s := 6) (v := v) (by decide) hW.2 h0
  refine va_put (ci := 3) (C := RX1) (T := TX1) (N := 15) (v := .int v) (ty := .int) hx hb htg inG_wsX10 tyX1 tyX1_ok nmX1 hown hK.1 hW.1 hW.2 hS q0 h2 rfl 6 (by decide) (htg _ hl) (fun _ h9 => h9) rfl (by decide +kernel) rfl rfl (Nat.le_of_ble_eq_true rfl) hdg (fun H1 locs1 hP hD hS => kk H1 locs1 ⟨?_, ?_⟩ hS)
  · rw [← hs]; exact hP
  · rw [← hs]; exact hD
theorem gf_2_7 (hx : p.tables.exec = Jvm.exec) (hb : c.code = cc) (htg : ∀ w ∈ wsG, w.before args s = true) {own : String} {index : Nat} (hown : s.vm.findClass own = some m.cls) (hK : Kt G s) (hW : Wh G x y H) (a : Fin 10) (hl : Cond.fieldLink own index "RobotCell$Cell" "zones" "LRobotCell$Zones;" ∈ wsG) (hdg : decode cc pc = .ok (.getfield index, 3)) (kk : W p l e R s m args below meth c H locs cells slots Q (F0 m (pc + 3) ls (.ref (gA G 3 ↑a 0) :: rest))) : W p l e R s m args below meth c H locs cells slots Q (F0 m pc ls (.ref (gA G 2 ↑a 0) :: rest)) := by
  obtain ⟨q0, h0, h2⟩ := wl_get (G := G) (x := x) (y := y) (id_2 a)
  rw [(mm_c (by decide))] at h2
  exact va_get (ci := 3) (C := RX1) (T := TX1) (N := 15) (v := .ref (gA G 3 ↑a 0)) hx hb htg inG_wsX10 hown hK.1 hW.1 q0 h2 rfl 7 (by decide) (htg _ hl) (fun _ h9 => h9) rfl hdg kk
theorem gf_2_8 (hx : p.tables.exec = Jvm.exec) (hb : c.code = cc) (htg : ∀ w ∈ wsG, w.before args s = true) {own : String} {index : Nat} (hown : s.vm.findClass own = some m.cls) (hK : Kt G s) (hW : Wh G x y H) (a : Fin 10) (hl : Cond.fieldLink own index "RobotCell$Cell" "log" "LRobotCell$Log;" ∈ wsG) (hdg : decode cc pc = .ok (.getfield index, 3)) (kk : W p l e R s m args below meth c H locs cells slots Q (F0 m (pc + 3) ls (.ref (gA G 6 ↑a 0) :: rest))) : W p l e R s m args below meth c H locs cells slots Q (F0 m pc ls (.ref (gA G 2 ↑a 0) :: rest)) := by
  obtain ⟨q0, h0, h2⟩ := wl_get (G := G) (x := x) (y := y) (id_2 a)
  rw [(mm_c (by decide))] at h2
  exact va_get (ci := 3) (C := RX1) (T := TX1) (N := 15) (v := .ref (gA G 6 ↑a 0)) hx hb htg inG_wsX10 hown hK.1 hW.1 q0 h2 rfl 8 (by decide) (htg _ hl) (fun _ h9 => h9) rfl hdg kk
theorem gf_2_9 (hx : p.tables.exec = Jvm.exec) (hb : c.code = cc) (htg : ∀ w ∈ wsG, w.before args s = true) {own : String} {index : Nat} (hown : s.vm.findClass own = some m.cls) (hK : Kt G s) (hW : Wh G x y H) (a : Fin 10) (hl : Cond.fieldLink own index "RobotCell$Cell" "arms" "[LRobotCell$Arm;" ∈ wsG) (hdg : decode cc pc = .ok (.getfield index, 3)) (kk : W p l e R s m args below meth c H locs cells slots Q (F0 m (pc + 3) ls (.ref (gA G 8 ↑a 0) :: rest))) : W p l e R s m args below meth c H locs cells slots Q (F0 m pc ls (.ref (gA G 2 ↑a 0) :: rest)) := by
  obtain ⟨q0, h0, h2⟩ := wl_get (G := G) (x := x) (y := y) (id_2 a)
  rw [(mm_c (by decide))] at h2
  exact va_get (ci := 3) (C := RX1) (T := TX1) (N := 15) (v := .ref (gA G 8 ↑a 0)) hx hb htg inG_wsX10 hown hK.1 hW.1 q0 h2 rfl 9 (by decide) (htg _ hl) (fun _ h9 => h9) rfl hdg kk
theorem gf_2_10 (hx : p.tables.exec = Jvm.exec) (hb : c.code = cc) (htg : ∀ w ∈ wsG, w.before args s = true) {own : String} {index : Nat} (hown : s.vm.findClass own = some m.cls) (hK : Kt G s) (hW : Wh G x y H) (a : Fin 10) (hl : Cond.fieldLink own index "RobotCell$Cell" "noArm" "LRobotCell$Arm;" ∈ wsG) (hdg : decode cc pc = .ok (.getfield index, 3)) (kk : W p l e R s m args below meth c H locs cells slots Q (F0 m (pc + 3) ls (.ref (gA G 0 ↑a 3) :: rest))) : W p l e R s m args below meth c H locs cells slots Q (F0 m pc ls (.ref (gA G 2 ↑a 0) :: rest)) := by
  obtain ⟨q0, h0, h2⟩ := wl_get (G := G) (x := x) (y := y) (id_2 a)
  rw [(mm_c (by decide))] at h2
  exact va_get (ci := 3) (C := RX1) (T := TX1) (N := 15) (v := .ref (gA G 0 ↑a 3)) hx hb htg inG_wsX10 hown hK.1 hW.1 q0 h2 rfl 10 (by decide) (htg _ hl) (fun _ h9 => h9) rfl hdg kk
theorem gf_2_11 (hx : p.tables.exec = Jvm.exec) (hb : c.code = cc) (htg : ∀ w ∈ wsG, w.before args s = true) {own : String} {index : Nat} (hown : s.vm.findClass own = some m.cls) (hK : Kt G s) (hW : Wh G x y H) (a : Fin 10) (hl : Cond.fieldLink own index "RobotCell$Cell" "stores" "[LRobotCell$Store;" ∈ wsG) (hdg : decode cc pc = .ok (.getfield index, 3)) (kk : W p l e R s m args below meth c H locs cells slots Q (F0 m (pc + 3) ls (.ref (gA G 11 ↑a 0) :: rest))) : W p l e R s m args below meth c H locs cells slots Q (F0 m pc ls (.ref (gA G 2 ↑a 0) :: rest)) := by
  obtain ⟨q0, h0, h2⟩ := wl_get (G := G) (x := x) (y := y) (id_2 a)
  rw [(mm_c (by decide))] at h2
  exact va_get (ci := 3) (C := RX1) (T := TX1) (N := 15) (v := .ref (gA G 11 ↑a 0)) hx hb htg inG_wsX10 hown hK.1 hW.1 q0 h2 rfl 11 (by decide) (htg _ hl) (fun _ h9 => h9) rfl hdg kk
theorem gf_2_12 (hx : p.tables.exec = Jvm.exec) (hb : c.code = cc) (htg : ∀ w ∈ wsG, w.before args s = true) {own : String} {index : Nat} (hown : s.vm.findClass own = some m.cls) (hK : Kt G s) (hW : Wh G x y H) (a : Fin 10) (hl : Cond.fieldLink own index "RobotCell$Cell" "noStore" "LRobotCell$Store;" ∈ wsG) (hdg : decode cc pc = .ok (.getfield index, 3)) (kk : W p l e R s m args below meth c H locs cells slots Q (F0 m (pc + 3) ls (.ref (gA G 9 ↑a 3) :: rest))) : W p l e R s m args below meth c H locs cells slots Q (F0 m pc ls (.ref (gA G 2 ↑a 0) :: rest)) := by
  obtain ⟨q0, h0, h2⟩ := wl_get (G := G) (x := x) (y := y) (id_2 a)
  rw [(mm_c (by decide))] at h2
  exact va_get (ci := 3) (C := RX1) (T := TX1) (N := 15) (v := .ref (gA G 9 ↑a 3)) hx hb htg inG_wsX10 hown hK.1 hW.1 q0 h2 rfl 12 (by decide) (htg _ hl) (fun _ h9 => h9) rfl hdg kk
theorem gf_2_13 (hx : p.tables.exec = Jvm.exec) (hb : c.code = cc) (htg : ∀ w ∈ wsG, w.before args s = true) {own : String} {index : Nat} (hown : s.vm.findClass own = some m.cls) (hK : Kt G s) (hW : Wh G x y H) (a : Fin 10) (hl : Cond.fieldLink own index "RobotCell$Cell" "jobs" "[LRobotCell$Job;" ∈ wsG) (hdg : decode cc pc = .ok (.getfield index, 3)) (kk : W p l e R s m args below meth c H locs cells slots Q (F0 m (pc + 3) ls (.ref (gA G 13 ↑a 0) :: rest))) : W p l e R s m args below meth c H locs cells slots Q (F0 m pc ls (.ref (gA G 2 ↑a 0) :: rest)) := by
  obtain ⟨q0, h0, h2⟩ := wl_get (G := G) (x := x) (y := y) (id_2 a)
  rw [(mm_c (by decide))] at h2
  exact va_get (ci := 3) (C := RX1) (T := TX1) (N := 15) (v := .ref (gA G 13 ↑a 0)) hx hb htg inG_wsX10 hown hK.1 hW.1 q0 h2 rfl 13 (by decide) (htg _ hl) (fun _ h9 => h9) rfl hdg kk
theorem gf_2_14 (hx : p.tables.exec = Jvm.exec) (hb : c.code = cc) (htg : ∀ w ∈ wsG, w.before args s = true) {own : String} {index : Nat} (hown : s.vm.findClass own = some m.cls) (hK : Kt G s) (hW : Wh G x y H) (a : Fin 10) (hl : Cond.fieldLink own index "RobotCell$Cell" "noJob" "LRobotCell$Job;" ∈ wsG) (hdg : decode cc pc = .ok (.getfield index, 3)) (kk : W p l e R s m args below meth c H locs cells slots Q (F0 m (pc + 3) ls (.ref (gA G 12 ↑a 30) :: rest))) : W p l e R s m args below meth c H locs cells slots Q (F0 m pc ls (.ref (gA G 2 ↑a 0) :: rest)) := by
  obtain ⟨q0, h0, h2⟩ := wl_get (G := G) (x := x) (y := y) (id_2 a)
  rw [(mm_c (by decide))] at h2
  exact va_get (ci := 3) (C := RX1) (T := TX1) (N := 15) (v := .ref (gA G 12 ↑a 30)) hx hb htg inG_wsX10 hown hK.1 hW.1 q0 h2 rfl 14 (by decide) (htg _ hl) (fun _ h9 => h9) rfl hdg kk
theorem rc_2 (hK : Kt G s) (hW : Wh G x y H) (a : Fin 10) : ∃ cell : Cell, H[(gA G 2 ↑a 0)]? = some cell ∧ cell.vm.isStatics = false ∧ s.vm.findClass RX1 = some cell.cls := by
  obtain ⟨q0, h0, h2⟩ := wl_get (G := G) (x := x) (y := y) (id_2 a)
  exact va_recv hK.1 hW.1 (ci := 3) (q := (RX1, TX1, 15)) rfl h2
theorem gf_3_0 (hx : p.tables.exec = Jvm.exec) (hb : c.code = cc) (htg : ∀ w ∈ wsG, w.before args s = true) {own : String} {index : Nat} (hown : s.vm.findClass own = some m.cls) (hK : Kt G s) (hW : Wh G x y H) (a : Fin 10) (hl : Cond.fieldLink own index "RobotCell$Zones" "interlocks" "I" ∈ wsG) (hdg : decode cc pc = .ok (.getfield index, 3)) (kk : W p l e R s m args below meth c H locs cells slots Q (F0 m (pc + 3) ls (.int (x 3 ↑a 0 0) :: rest))) : W p l e R s m args below meth c H locs cells slots Q (F0 m pc ls (.ref (gA G 3 ↑a 0) :: rest)) := by
  obtain ⟨q0, h0, h2⟩ := wl_get (G := G) (x := x) (y := y) (id_3 a)
  rw [(mm_c (by decide))] at h2
  exact va_get (ci := 12) (C := RX10) (T := TX10) (N := 3) (v := .int (x 3 ↑a 0 0)) hx hb htg inG_wsX100 hown hK.1 hW.1 q0 h2 rfl 0 (by decide) (htg _ hl) (fun _ h9 => h9) rfl hdg kk
theorem pf_3_0 (hx : p.tables.exec = Jvm.exec) (hb : c.code = cc) (htg : ∀ w ∈ wsG, w.before args s = true) {own : String} {index : Nat} (hown : s.vm.findClass own = some m.cls) (hK : Kt G s) (hW : Wh G x y H) (hS : va_S (gF G) H0 H locs) (a : Fin 10) (hl : Cond.fieldLink own index "RobotCell$Zones" "interlocks" "I" ∈ wsG) {v : Int32} (hdg : decode cc pc = .ok (.putfield index, 3)) (kk : ∀ (H1 : Heap) (locs1 : List Loc), Wh G (up4 x 3 ↑a 0 0 v) y H1 → va_S (gF G) H0 H1 locs1 → W p l e R s m args below meth c H1 locs1 cells slots Q (F0 m (pc + 3) ls rest)) : W p l e R s m args below meth c H locs cells slots Q (F0 m pc ls (.int v :: .ref (gA G 3 ↑a 0) :: rest)) := by
  obtain ⟨q0, h0, h2⟩ := wl_get (G := G) (x := x) (y := y) (id_3 a)
  rw [(mm_c (by decide))] at h2
  have hs := wl_set_c (G := G) (x := x) (y := y) (s := 0) (v := v) (by decide) hW.2 h0
  refine va_put (ci := 12) (C := RX10) (T := TX10) (N := 3) (v := .int v) (ty := .int) hx hb htg inG_wsX100 tyX10 tyX10_ok nmX10 hown hK.1 hW.1 hW.2 hS q0 h2 rfl 0 (by decide) (htg _ hl) (fun _ h9 => h9) rfl (by decide +kernel) rfl rfl (Nat.le_of_ble_eq_true rfl) hdg (fun H1 locs1 hP hD hS => kk H1 locs1 ⟨?_, ?_⟩ hS)
  · rw [← hs]; exact hP
  · rw [← hs]; exact hD
theorem gf_3_1 (hx : p.tables.exec = Jvm.exec) (hb : c.code = cc) (htg : ∀ w ∈ wsG, w.before args s = true) {own : String} {index : Nat} (hown : s.vm.findClass own = some m.cls) (hK : Kt G s) (hW : Wh G x y H) (a : Fin 10) (hl : Cond.fieldLink own index "RobotCell$Zones" "conflicts" "[I" ∈ wsG) (hdg : decode cc pc = .ok (.getfield index, 3)) (kk : W p l e R s m args below meth c H locs cells slots Q (F0 m (pc + 3) ls (.ref (gA G 4 ↑a 0) :: rest))) : W p l e R s m args below meth c H locs cells slots Q (F0 m pc ls (.ref (gA G 3 ↑a 0) :: rest)) := by
  obtain ⟨q0, h0, h2⟩ := wl_get (G := G) (x := x) (y := y) (id_3 a)
  rw [(mm_c (by decide))] at h2
  exact va_get (ci := 12) (C := RX10) (T := TX10) (N := 3) (v := .ref (gA G 4 ↑a 0)) hx hb htg inG_wsX100 hown hK.1 hW.1 q0 h2 rfl 1 (by decide) (htg _ hl) (fun _ h9 => h9) rfl hdg kk
theorem gf_3_2 (hx : p.tables.exec = Jvm.exec) (hb : c.code = cc) (htg : ∀ w ∈ wsG, w.before args s = true) {own : String} {index : Nat} (hown : s.vm.findClass own = some m.cls) (hK : Kt G s) (hW : Wh G x y H) (a : Fin 10) (hl : Cond.fieldLink own index "RobotCell$Zones" "heldTicks" "[I" ∈ wsG) (hdg : decode cc pc = .ok (.getfield index, 3)) (kk : W p l e R s m args below meth c H locs cells slots Q (F0 m (pc + 3) ls (.ref (gA G 5 ↑a 0) :: rest))) : W p l e R s m args below meth c H locs cells slots Q (F0 m pc ls (.ref (gA G 3 ↑a 0) :: rest)) := by
  obtain ⟨q0, h0, h2⟩ := wl_get (G := G) (x := x) (y := y) (id_3 a)
  rw [(mm_c (by decide))] at h2
  exact va_get (ci := 12) (C := RX10) (T := TX10) (N := 3) (v := .ref (gA G 5 ↑a 0)) hx hb htg inG_wsX100 hown hK.1 hW.1 q0 h2 rfl 2 (by decide) (htg _ hl) (fun _ h9 => h9) rfl hdg kk
theorem rc_3 (hK : Kt G s) (hW : Wh G x y H) (a : Fin 10) : ∃ cell : Cell, H[(gA G 3 ↑a 0)]? = some cell ∧ cell.vm.isStatics = false ∧ s.vm.findClass RX10 = some cell.cls := by
  obtain ⟨q0, h0, h2⟩ := wl_get (G := G) (x := x) (y := y) (id_3 a)
  exact va_recv hK.1 hW.1 (ci := 12) (q := (RX10, TX10, 3)) rfl h2
theorem al_4 (hx : p.tables.exec = Jvm.exec) (hb : c.code = cc) (hK : Kt G s) (hW : Wh G x y H) (a : Fin 10) {i : Int32} (hin : vp_in i 8) (hdg : decode cc pc = .ok (.iaload, 1)) (kk : W p l e R s m args below meth c H locs cells slots Q (F0 m (pc + 1) ls (.int (x 4 ↑a 0 i.toNatClampNeg) :: rest))) : W p l e R s m args below meth c H locs cells slots Q (F0 m pc ls (.int i :: .ref (gA G 4 ↑a 0) :: rest)) := by
  obtain ⟨q0, h0, h2⟩ := wl_get (G := G) (x := x) (y := y) (id_4 a)
  rw [(mm_c (by decide))] at h2
  exact va_iald hx hb hK.1 hW.1 q0 0 h2 rfl hin hdg kk
theorem as_4 (hx : p.tables.exec = Jvm.exec) (hb : c.code = cc) (hK : Kt G s) (hW : Wh G x y H) (hS : va_S (gF G) H0 H locs) (a : Fin 10) {i v : Int32} (hin : vp_in i 8) (hdg : decode cc pc = .ok (.iastore, 1)) (kk : ∀ (H1 : Heap) (locs1 : List Loc), Wh G (up4 x 4 ↑a 0 i.toNatClampNeg v) y H1 → va_S (gF G) H0 H1 locs1 → W p l e R s m args below meth c H1 locs1 cells slots Q (F0 m (pc + 1) ls rest)) : W p l e R s m args below meth c H locs cells slots Q (F0 m pc ls (.int v :: .int i :: .ref (gA G 4 ↑a 0) :: rest)) := by
  obtain ⟨q0, h0, h2⟩ := wl_get (G := G) (x := x) (y := y) (id_4 a)
  rw [(mm_c (by decide))] at h2
  have hs := wl_set_c (G := G) (x := x) (y := y) (s := i.toNatClampNeg) (v := v) (by decide) hW.2 h0
  refine va_iast hx hb hK.1 hW.1 hW.2 hS q0 0 h2 rfl hin hdg (fun H1 locs1 hP hD hS => kk H1 locs1 ⟨?_, ?_⟩ hS)
  · rw [← hs]; exact hP
  · rw [← hs]; exact hD
theorem an_4 (hx : p.tables.exec = Jvm.exec) (hb : c.code = cc) (hK : Kt G s) (hW : Wh G x y H) (a : Fin 10) (hdg : decode cc pc = .ok (.arraylength, 1)) (kk : W p l e R s m args below meth c H locs cells slots Q (F0 m (pc + 1) ls (.int 8 :: rest))) : W p l e R s m args below meth c H locs cells slots Q (F0 m pc ls (.ref (gA G 4 ↑a 0) :: rest)) := by
  obtain ⟨q0, h0, h2⟩ := wl_get (G := G) (x := x) (y := y) (id_4 a)
  exact va_alen hx hb hK.1 hW.1 q0 0 h2 rfl rfl hdg kk
theorem al_5 (hx : p.tables.exec = Jvm.exec) (hb : c.code = cc) (hK : Kt G s) (hW : Wh G x y H) (a : Fin 10) {i : Int32} (hin : vp_in i 8) (hdg : decode cc pc = .ok (.iaload, 1)) (kk : W p l e R s m args below meth c H locs cells slots Q (F0 m (pc + 1) ls (.int (x 5 ↑a 0 i.toNatClampNeg) :: rest))) : W p l e R s m args below meth c H locs cells slots Q (F0 m pc ls (.int i :: .ref (gA G 5 ↑a 0) :: rest)) := by
  obtain ⟨q0, h0, h2⟩ := wl_get (G := G) (x := x) (y := y) (id_5 a)
  rw [(mm_c (by decide))] at h2
  exact va_iald hx hb hK.1 hW.1 q0 0 h2 rfl hin hdg kk
theorem as_5 (hx : p.tables.exec = Jvm.exec) (hb : c.code = cc) (hK : Kt G s) (hW : Wh G x y H) (hS : va_S (gF G) H0 H locs) (a : Fin 10) {i v : Int32} (hin : vp_in i 8) (hdg : decode cc pc = .ok (.iastore, 1)) (kk : ∀ (H1 : Heap) (locs1 : List Loc), Wh G (up4 x 5 ↑a 0 i.toNatClampNeg v) y H1 → va_S (gF G) H0 H1 locs1 → W p l e R s m args below meth c H1 locs1 cells slots Q (F0 m (pc + 1) ls rest)) : W p l e R s m args below meth c H locs cells slots Q (F0 m pc ls (.int v :: .int i :: .ref (gA G 5 ↑a 0) :: rest)) := by
  obtain ⟨q0, h0, h2⟩ := wl_get (G := G) (x := x) (y := y) (id_5 a)
  rw [(mm_c (by decide))] at h2
  have hs := wl_set_c (G := G) (x := x) (y := y) (s := i.toNatClampNeg) (v := v) (by decide) hW.2 h0
  refine va_iast hx hb hK.1 hW.1 hW.2 hS q0 0 h2 rfl hin hdg (fun H1 locs1 hP hD hS => kk H1 locs1 ⟨?_, ?_⟩ hS)
  · rw [← hs]; exact hP
  · rw [← hs]; exact hD
theorem an_5 (hx : p.tables.exec = Jvm.exec) (hb : c.code = cc) (hK : Kt G s) (hW : Wh G x y H) (a : Fin 10) (hdg : decode cc pc = .ok (.arraylength, 1)) (kk : W p l e R s m args below meth c H locs cells slots Q (F0 m (pc + 1) ls (.int 8 :: rest))) : W p l e R s m args below meth c H locs cells slots Q (F0 m pc ls (.ref (gA G 5 ↑a 0) :: rest)) := by
  obtain ⟨q0, h0, h2⟩ := wl_get (G := G) (x := x) (y := y) (id_5 a)
  exact va_alen hx hb hK.1 hW.1 q0 0 h2 rfl rfl hdg kk
theorem gf_6_0 (hx : p.tables.exec = Jvm.exec) (hb : c.code = cc) (htg : ∀ w ∈ wsG, w.before args s = true) {own : String} {index : Nat} (hown : s.vm.findClass own = some m.cls) (hK : Kt G s) (hW : Wh G x y H) (a : Fin 10) (hl : Cond.fieldLink own index "RobotCell$Log" "made" "I" ∈ wsG) (hdg : decode cc pc = .ok (.getfield index, 3)) (kk : W p l e R s m args below meth c H locs cells slots Q (F0 m (pc + 3) ls (.int (x 6 ↑a 0 0) :: rest))) : W p l e R s m args below meth c H locs cells slots Q (F0 m pc ls (.ref (gA G 6 ↑a 0) :: rest)) := by
  obtain ⟨q0, h0, h2⟩ := wl_get (G := G) (x := x) (y := y) (id_6 a)
  rw [(mm_c (by decide))] at h2
  exact va_get (ci := 9) (C := RX7) (T := TX7) (N := 2) (v := .int (x 6 ↑a 0 0)) hx hb htg inG_wsX70 hown hK.1 hW.1 q0 h2 rfl 0 (by decide) (htg _ hl) (fun _ h9 => h9) rfl hdg kk
theorem pf_6_0 (hx : p.tables.exec = Jvm.exec) (hb : c.code = cc) (htg : ∀ w ∈ wsG, w.before args s = true) {own : String} {index : Nat} (hown : s.vm.findClass own = some m.cls) (hK : Kt G s) (hW : Wh G x y H) (hS : va_S (gF G) H0 H locs) (a : Fin 10) (hl : Cond.fieldLink own index "RobotCell$Log" "made" "I" ∈ wsG) {v : Int32} (hdg : decode cc pc = .ok (.putfield index, 3)) (kk : ∀ (H1 : Heap) (locs1 : List Loc), Wh G (up4 x 6 ↑a 0 0 v) y H1 → va_S (gF G) H0 H1 locs1 → W p l e R s m args below meth c H1 locs1 cells slots Q (F0 m (pc + 3) ls rest)) : W p l e R s m args below meth c H locs cells slots Q (F0 m pc ls (.int v :: .ref (gA G 6 ↑a 0) :: rest)) := by
  obtain ⟨q0, h0, h2⟩ := wl_get (G := G) (x := x) (y := y) (id_6 a)
  rw [(mm_c (by decide))] at h2
  have hs := wl_set_c (G := G) (x := x) (y := y) (s := 0) (v := v) (by decide) hW.2 h0
  refine va_put (ci := 9) (C := RX7) (T := TX7) (N := 2) (v := .int v) (ty := .int) hx hb htg inG_wsX70 tyX7 tyX7_ok nmX7 hown hK.1 hW.1 hW.2 hS q0 h2 rfl 0 (by decide) (htg _ hl) (fun _ h9 => h9) rfl (by decide +kernel) rfl rfl (Nat.le_of_ble_eq_true rfl) hdg (fun H1 locs1 hP hD hS => kk H1 locs1 ⟨?_, ?_⟩ hS)
  · rw [← hs]; exact hP
  · rw [← hs]; exact hD
theorem gf_6_1 (hx : p.tables.exec = Jvm.exec) (hb : c.code = cc) (htg : ∀ w ∈ wsG, w.before args s = true) {own : String} {index : Nat} (hown : s.vm.findClass own = some m.cls) (hK : Kt G s) (hW : Wh G x y H) (a : Fin 10) (hl : Cond.fieldLink own index "RobotCell$Log" "numbers" "[I" ∈ wsG) (hdg : decode cc pc = .ok (.getfield index, 3)) (kk : W p l e R s m args below meth c H locs cells slots Q (F0 m (pc + 3) ls (.ref (gA G 7 ↑a 0) :: rest))) : W p l e R s m args below meth c H locs cells slots Q (F0 m pc ls (.ref (gA G 6 ↑a 0) :: rest)) := by
  obtain ⟨q0, h0, h2⟩ := wl_get (G := G) (x := x) (y := y) (id_6 a)
  rw [(mm_c (by decide))] at h2
  exact va_get (ci := 9) (C := RX7) (T := TX7) (N := 2) (v := .ref (gA G 7 ↑a 0)) hx hb htg inG_wsX70 hown hK.1 hW.1 q0 h2 rfl 1 (by decide) (htg _ hl) (fun _ h9 => h9) rfl hdg kk
theorem rc_6 (hK : Kt G s) (hW : Wh G x y H) (a : Fin 10) : ∃ cell : Cell, H[(gA G 6 ↑a 0)]? = some cell ∧ cell.vm.isStatics = false ∧ s.vm.findClass RX7 = some cell.cls := by
  obtain ⟨q0, h0, h2⟩ := wl_get (G := G) (x := x) (y := y) (id_6 a)
  exact va_recv hK.1 hW.1 (ci := 9) (q := (RX7, TX7, 2)) rfl h2
theorem al_7 (hx : p.tables.exec = Jvm.exec) (hb : c.code = cc) (hK : Kt G s) (hW : Wh G x y H) (a : Fin 10) {i : Int32} (hin : vp_in i 96) (hdg : decode cc pc = .ok (.iaload, 1)) (kk : W p l e R s m args below meth c H locs cells slots Q (F0 m (pc + 1) ls (.int (x 7 ↑a 0 i.toNatClampNeg) :: rest))) : W p l e R s m args below meth c H locs cells slots Q (F0 m pc ls (.int i :: .ref (gA G 7 ↑a 0) :: rest)) := by
  obtain ⟨q0, h0, h2⟩ := wl_get (G := G) (x := x) (y := y) (id_7 a)
  rw [(mm_c (by decide))] at h2
  exact va_iald hx hb hK.1 hW.1 q0 0 h2 rfl hin hdg kk
theorem as_7 (hx : p.tables.exec = Jvm.exec) (hb : c.code = cc) (hK : Kt G s) (hW : Wh G x y H) (hS : va_S (gF G) H0 H locs) (a : Fin 10) {i v : Int32} (hin : vp_in i 96) (hdg : decode cc pc = .ok (.iastore, 1)) (kk : ∀ (H1 : Heap) (locs1 : List Loc), Wh G (up4 x 7 ↑a 0 i.toNatClampNeg v) y H1 → va_S (gF G) H0 H1 locs1 → W p l e R s m args below meth c H1 locs1 cells slots Q (F0 m (pc + 1) ls rest)) : W p l e R s m args below meth c H locs cells slots Q (F0 m pc ls (.int v :: .int i :: .ref (gA G 7 ↑a 0) :: rest)) := by
  obtain ⟨q0, h0, h2⟩ := wl_get (G := G) (x := x) (y := y) (id_7 a)
  rw [(mm_c (by decide))] at h2
  have hs := wl_set_c (G := G) (x := x) (y := y) (s := i.toNatClampNeg) (v := v) (by decide) hW.2 h0
  refine va_iast hx hb hK.1 hW.1 hW.2 hS q0 0 h2 rfl hin hdg (fun H1 locs1 hP hD hS => kk H1 locs1 ⟨?_, ?_⟩ hS)
  · rw [← hs]; exact hP
  · rw [← hs]; exact hD
theorem an_7 (hx : p.tables.exec = Jvm.exec) (hb : c.code = cc) (hK : Kt G s) (hW : Wh G x y H) (a : Fin 10) (hdg : decode cc pc = .ok (.arraylength, 1)) (kk : W p l e R s m args below meth c H locs cells slots Q (F0 m (pc + 1) ls (.int 96 :: rest))) : W p l e R s m args below meth c H locs cells slots Q (F0 m pc ls (.ref (gA G 7 ↑a 0) :: rest)) := by
  obtain ⟨q0, h0, h2⟩ := wl_get (G := G) (x := x) (y := y) (id_7 a)
  exact va_alen hx hb hK.1 hW.1 q0 0 h2 rfl rfl hdg kk
theorem al_8 (hx : p.tables.exec = Jvm.exec) (hb : c.code = cc) (hK : Kt G s) (hW : Wh G x y H) (a : Fin 10) {i : Int32} (hin : vp_in i 3) (hdg : decode cc pc = .ok (.aaload, 1)) (kk : W p l e R s m args below meth c H locs cells slots Q (F0 m (pc + 1) ls (.ref (gA G 0 ↑a i.toNatClampNeg) :: rest))) : W p l e R s m args below meth c H locs cells slots Q (F0 m pc ls (.int i :: .ref (gA G 8 ↑a 0) :: rest)) := by
  obtain ⟨q0, h0, h2⟩ := wl_get (G := G) (x := x) (y := y) (id_8 a)
  exact va_aldq hx hb hK.1 hW.1 q0 2 h2 rfl hin hdg kk
theorem an_8 (hx : p.tables.exec = Jvm.exec) (hb : c.code = cc) (hK : Kt G s) (hW : Wh G x y H) (a : Fin 10) (hdg : decode cc pc = .ok (.arraylength, 1)) (kk : W p l e R s m args below meth c H locs cells slots Q (F0 m (pc + 1) ls (.int 3 :: rest))) : W p l e R s m args below meth c H locs cells slots Q (F0 m pc ls (.ref (gA G 8 ↑a 0) :: rest)) := by
  obtain ⟨q0, h0, h2⟩ := wl_get (G := G) (x := x) (y := y) (id_8 a)
  exact va_alen hx hb hK.1 hW.1 q0 2 h2 rfl rfl hdg kk
theorem gf_9_0 (hx : p.tables.exec = Jvm.exec) (hb : c.code = cc) (htg : ∀ w ∈ wsG, w.before args s = true) {own : String} {index : Nat} (hown : s.vm.findClass own = some m.cls) (hK : Kt G s) (hW : Wh G x y H) (a : Fin 10 × Fin 4) (hl : Cond.fieldLink own index "RobotCell$Store" "capacity" "I" ∈ wsG) (hdg : decode cc pc = .ok (.getfield index, 3)) (kk : W p l e R s m args below meth c H locs cells slots Q (F0 m (pc + 3) ls (.int (x 9 ↑a.1 ↑a.2 0) :: rest))) : W p l e R s m args below meth c H locs cells slots Q (F0 m pc ls (.ref (gA G 9 ↑a.1 ↑a.2) :: rest)) := by
  obtain ⟨q0, h0, h2⟩ := wl_get (G := G) (x := x) (y := y) (id_9 a)
  rw [(mm_c (by decide))] at h2
  exact va_get (ci := 11) (C := RX9) (T := TX9) (N := 7) (v := .int (x 9 ↑a.1 ↑a.2 0)) hx hb htg inG_wsX90 hown hK.1 hW.1 q0 h2 rfl 0 (by decide) (htg _ hl) (fun _ h9 => h9) rfl hdg kk
theorem pf_9_0 (hx : p.tables.exec = Jvm.exec) (hb : c.code = cc) (htg : ∀ w ∈ wsG, w.before args s = true) {own : String} {index : Nat} (hown : s.vm.findClass own = some m.cls) (hK : Kt G s) (hW : Wh G x y H) (hS : va_S (gF G) H0 H locs) (a : Fin 10 × Fin 4) (hl : Cond.fieldLink own index "RobotCell$Store" "capacity" "I" ∈ wsG) {v : Int32} (hdg : decode cc pc = .ok (.putfield index, 3)) (kk : ∀ (H1 : Heap) (locs1 : List Loc), Wh G (up4 x 9 ↑a.1 ↑a.2 0 v) y H1 → va_S (gF G) H0 H1 locs1 → W p l e R s m args below meth c H1 locs1 cells slots Q (F0 m (pc + 3) ls rest)) : W p l e R s m args below meth c H locs cells slots Q (F0 m pc ls (.int v :: .ref (gA G 9 ↑a.1 ↑a.2) :: rest)) := by
  obtain ⟨q0, h0, h2⟩ := wl_get (G := G) (x := x) (y := y) (id_9 a)
  rw [(mm_c (by decide))] at h2
  have hs := wl_set_c (G := G) (x := x) (y := y) (s := 0) (v := v) (by decide) hW.2 h0
  refine va_put (ci := 11) (C := RX9) (T := TX9) (N := 7) (v := .int v) (ty := .int) hx hb htg inG_wsX90 tyX9 tyX9_ok nmX9 hown hK.1 hW.1 hW.2 hS q0 h2 rfl 0 (by decide) (htg _ hl) (fun _ h9 => h9) rfl (by decide +kernel) rfl rfl (Nat.le_of_ble_eq_true rfl) hdg (fun H1 locs1 hP hD hS => kk H1 locs1 ⟨?_, ?_⟩ hS)
  · rw [← hs]; exact hP
  · rw [← hs]; exact hD
theorem gf_9_1 (hx : p.tables.exec = Jvm.exec) (hb : c.code = cc) (htg : ∀ w ∈ wsG, w.before args s = true) {own : String} {index : Nat} (hown : s.vm.findClass own = some m.cls) (hK : Kt G s) (hW : Wh G x y H) (a : Fin 10 × Fin 4) (hl : Cond.fieldLink own index "RobotCell$Store" "count" "I" ∈ wsG) (hdg : decode cc pc = .ok (.getfield index, 3)) (kk : W p l e R s m args below meth c H locs cells slots Q (F0 m (pc + 3) ls (.int (x 9 ↑a.1 ↑a.2 1) :: rest))) : W p l e R s m args below meth c H locs cells slots Q (F0 m pc ls (.ref (gA G 9 ↑a.1 ↑a.2) :: rest)) := by
  obtain ⟨q0, h0, h2⟩ := wl_get (G := G) (x := x) (y := y) (id_9 a)
  rw [(mm_c (by decide))] at h2
  exact va_get (ci := 11) (C := RX9) (T := TX9) (N := 7) (v := .int (x 9 ↑a.1 ↑a.2 1)) hx hb htg inG_wsX90 hown hK.1 hW.1 q0 h2 rfl 1 (by decide) (htg _ hl) (fun _ h9 => h9) rfl hdg kk
theorem pf_9_1 (hx : p.tables.exec = Jvm.exec) (hb : c.code = cc) (htg : ∀ w ∈ wsG, w.before args s = true) {own : String} {index : Nat} (hown : s.vm.findClass own = some m.cls) (hK : Kt G s) (hW : Wh G x y H) (hS : va_S (gF G) H0 H locs) (a : Fin 10 × Fin 4) (hl : Cond.fieldLink own index "RobotCell$Store" "count" "I" ∈ wsG) {v : Int32} (hdg : decode cc pc = .ok (.putfield index, 3)) (kk : ∀ (H1 : Heap) (locs1 : List Loc), Wh G (up4 x 9 ↑a.1 ↑a.2 1 v) y H1 → va_S (gF G) H0 H1 locs1 → W p l e R s m args below meth c H1 locs1 cells slots Q (F0 m (pc + 3) ls rest)) : W p l e R s m args below meth c H locs cells slots Q (F0 m pc ls (.int v :: .ref (gA G 9 ↑a.1 ↑a.2) :: rest)) := by
  obtain ⟨q0, h0, h2⟩ := wl_get (G := G) (x := x) (y := y) (id_9 a)
  rw [(mm_c (by decide))] at h2
  have hs := wl_set_c (G := G) (x := x) (y := y) (s := 1) (v := v) (by decide) hW.2 h0
  refine va_put (ci := 11) (C := RX9) (T := TX9) (N := 7) (v := .int v) (ty := .int) hx hb htg inG_wsX90 tyX9 tyX9_ok nmX9 hown hK.1 hW.1 hW.2 hS q0 h2 rfl 1 (by decide) (htg _ hl) (fun _ h9 => h9) rfl (by decide +kernel) rfl rfl (Nat.le_of_ble_eq_true rfl) hdg (fun H1 locs1 hP hD hS => kk H1 locs1 ⟨?_, ?_⟩ hS)
  · rw [← hs]; exact hP
  · rw [← hs]; exact hD
theorem gf_9_2 (hx : p.tables.exec = Jvm.exec) (hb : c.code = cc) (htg : ∀ w ∈ wsG, w.before args s = true) {own : String} {index : Nat} (hown : s.vm.findClass own = some m.cls) (hK : Kt G s) (hW : Wh G x y H) (a : Fin 10 × Fin 4) (hl : Cond.fieldLink own index "RobotCell$Store" "promisedPlaces" "I" ∈ wsG) (hdg : decode cc pc = .ok (.getfield index, 3)) (kk : W p l e R s m args below meth c H locs cells slots Q (F0 m (pc + 3) ls (.int (x 9 ↑a.1 ↑a.2 2) :: rest))) : W p l e R s m args below meth c H locs cells slots Q (F0 m pc ls (.ref (gA G 9 ↑a.1 ↑a.2) :: rest)) := by
  obtain ⟨q0, h0, h2⟩ := wl_get (G := G) (x := x) (y := y) (id_9 a)
  rw [(mm_c (by decide))] at h2
  exact va_get (ci := 11) (C := RX9) (T := TX9) (N := 7) (v := .int (x 9 ↑a.1 ↑a.2 2)) hx hb htg inG_wsX90 hown hK.1 hW.1 q0 h2 rfl 2 (by decide) (htg _ hl) (fun _ h9 => h9) rfl hdg kk
theorem pf_9_2 (hx : p.tables.exec = Jvm.exec) (hb : c.code = cc) (htg : ∀ w ∈ wsG, w.before args s = true) {own : String} {index : Nat} (hown : s.vm.findClass own = some m.cls) (hK : Kt G s) (hW : Wh G x y H) (hS : va_S (gF G) H0 H locs) (a : Fin 10 × Fin 4) (hl : Cond.fieldLink own index "RobotCell$Store" "promisedPlaces" "I" ∈ wsG) {v : Int32} (hdg : decode cc pc = .ok (.putfield index, 3)) (kk : ∀ (H1 : Heap) (locs1 : List Loc), Wh G (up4 x 9 ↑a.1 ↑a.2 2 v) y H1 → va_S (gF G) H0 H1 locs1 → W p l e R s m args below meth c H1 locs1 cells slots Q (F0 m (pc + 3) ls rest)) : W p l e R s m args below meth c H locs cells slots Q (F0 m pc ls (.int v :: .ref (gA G 9 ↑a.1 ↑a.2) :: rest)) := by
  obtain ⟨q0, h0, h2⟩ := wl_get (G := G) (x := x) (y := y) (id_9 a)
  rw [(mm_c (by decide))] at h2
  have hs := wl_set_c (G := G) (x := x) (y := y) (s := 2) (v := v) (by decide) hW.2 h0
  refine va_put (ci := 11) (C := RX9) (T := TX9) (N := 7) (v := .int v) (ty := .int) hx hb htg inG_wsX90 tyX9 tyX9_ok nmX9 hown hK.1 hW.1 hW.2 hS q0 h2 rfl 2 (by decide) (htg _ hl) (fun _ h9 => h9) rfl (by decide +kernel) rfl rfl (Nat.le_of_ble_eq_true rfl) hdg (fun H1 locs1 hP hD hS => kk H1 locs1 ⟨?_, ?_⟩ hS)
  · rw [← hs]; exact hP
  · rw [← hs]; exact hD
theorem gf_9_3 (hx : p.tables.exec = Jvm.exec) (hb : c.code = cc) (htg : ∀ w ∈ wsG, w.before args s = true) {own : String} {index : Nat} (hown : s.vm.findClass own = some m.cls) (hK : Kt G s) (hW : Wh G x y H) (a : Fin 10 × Fin 4) (hl : Cond.fieldLink own index "RobotCell$Store" "promisedParts" "I" ∈ wsG) (hdg : decode cc pc = .ok (.getfield index, 3)) (kk : W p l e R s m args below meth c H locs cells slots Q (F0 m (pc + 3) ls (.int (x 9 ↑a.1 ↑a.2 3) :: rest))) : W p l e R s m args below meth c H locs cells slots Q (F0 m pc ls (.ref (gA G 9 ↑a.1 ↑a.2) :: rest)) := by
  obtain ⟨q0, h0, h2⟩ := wl_get (G := G) (x := x) (y := y) (id_9 a)
  rw [(mm_c (by decide))] at h2
  exact va_get (ci := 11) (C := RX9) (T := TX9) (N := 7) (v := .int (x 9 ↑a.1 ↑a.2 3)) hx hb htg inG_wsX90 hown hK.1 hW.1 q0 h2 rfl 3 (by decide) (htg _ hl) (fun _ h9 => h9) rfl hdg kk
theorem pf_9_3 (hx : p.tables.exec = Jvm.exec) (hb : c.code = cc) (htg : ∀ w ∈ wsG, w.before args s = true) {own : String} {index : Nat} (hown : s.vm.findClass own = some m.cls) (hK : Kt G s) (hW : Wh G x y H) (hS : va_S (gF G) H0 H locs) (a : Fin 10 × Fin 4) (hl : Cond.fieldLink own index "RobotCell$Store" "promisedParts" "I" ∈ wsG) {v : Int32} (hdg : decode cc pc = .ok (.putfield index, 3)) (kk : ∀ (H1 : Heap) (locs1 : List Loc), Wh G (up4 x 9 ↑a.1 ↑a.2 3 v) y H1 → va_S (gF G) H0 H1 locs1 → W p l e R s m args below meth c H1 locs1 cells slots Q (F0 m (pc + 3) ls rest)) : W p l e R s m args below meth c H locs cells slots Q (F0 m pc ls (.int v :: .ref (gA G 9 ↑a.1 ↑a.2) :: rest)) := by
  obtain ⟨q0, h0, h2⟩ := wl_get (G := G) (x := x) (y := y) (id_9 a)
  rw [(mm_c (by decide))] at h2
  have hs := wl_set_c (G := G) (x := x) (y := y) (s := 3) (v := v) (by decide) hW.2 h0
  refine va_put (ci := 11) (C := RX9) (T := TX9) (N := 7) (v := .int v) (ty := .int) hx hb htg inG_wsX90 tyX9 tyX9_ok nmX9 hown hK.1 hW.1 hW.2 hS q0 h2 rfl 3 (by decide) (htg _ hl) (fun _ h9 => h9) rfl (by decide +kernel) rfl rfl (Nat.le_of_ble_eq_true rfl) hdg (fun H1 locs1 hP hD hS => kk H1 locs1 ⟨?_, ?_⟩ hS)
  · rw [← hs]; exact hP
  · rw [← hs]; exact hD
theorem gf_9_4 (hx : p.tables.exec = Jvm.exec) (hb : c.code = cc) (htg : ∀ w ∈ wsG, w.before args s = true) {own : String} {index : Nat} (hown : s.vm.findClass own = some m.cls) (hK : Kt G s) (hW : Wh G x y H) (a : Fin 10 × Fin 4) (hl : Cond.fieldLink own index "RobotCell$Store" "came" "I" ∈ wsG) (hdg : decode cc pc = .ok (.getfield index, 3)) (kk : W p l e R s m args below meth c H locs cells slots Q (F0 m (pc + 3) ls (.int (x 9 ↑a.1 ↑a.2 4) :: rest))) : W p l e R s m args below meth c H locs cells slots Q (F0 m pc ls (.ref (gA G 9 ↑a.1 ↑a.2) :: rest)) := by
  obtain ⟨q0, h0, h2⟩ := wl_get (G := G) (x := x) (y := y) (id_9 a)
  rw [(mm_c (by decide))] at h2
  exact va_get (ci := 11) (C := RX9) (T := TX9) (N := 7) (v := .int (x 9 ↑a.1 ↑a.2 4)) hx hb htg inG_wsX90 hown hK.1 hW.1 q0 h2 rfl 4 (by decide) (htg _ hl) (fun _ h9 => h9) rfl hdg kk
theorem pf_9_4 (hx : p.tables.exec = Jvm.exec) (hb : c.code = cc) (htg : ∀ w ∈ wsG, w.before args s = true) {own : String} {index : Nat} (hown : s.vm.findClass own = some m.cls) (hK : Kt G s) (hW : Wh G x y H) (hS : va_S (gF G) H0 H locs) (a : Fin 10 × Fin 4) (hl : Cond.fieldLink own index "RobotCell$Store" "came" "I" ∈ wsG) {v : Int32} (hdg : decode cc pc = .ok (.putfield index, 3)) (kk : ∀ (H1 : Heap) (locs1 : List Loc), Wh G (up4 x 9 ↑a.1 ↑a.2 4 v) y H1 → va_S (gF G) H0 H1 locs1 → W p l e R s m args below meth c H1 locs1 cells slots Q (F0 m (pc + 3) ls rest)) : W p l e R s m args below meth c H locs cells slots Q (F0 m pc ls (.int v :: .ref (gA G 9 ↑a.1 ↑a.2) :: rest)) := by
  obtain ⟨q0, h0, h2⟩ := wl_get (G := G) (x := x) (y := y) (id_9 a)
  rw [(mm_c (by decide))] at h2
  have hs := wl_set_c (G := G) (x := x) (y := y) (s := 4) (v := v) (by decide) hW.2 h0
  refine va_put (ci := 11) (C := RX9) (T := TX9) (N := 7) (v := .int v) (ty := .int) hx hb htg inG_wsX90 tyX9 tyX9_ok nmX9 hown hK.1 hW.1 hW.2 hS q0 h2 rfl 4 (by decide) (htg _ hl) (fun _ h9 => h9) rfl (by decide +kernel) rfl rfl (Nat.le_of_ble_eq_true rfl) hdg (fun H1 locs1 hP hD hS => kk H1 locs1 ⟨?_, ?_⟩ hS)
  · rw [← hs]; exact hP
  · rw [← hs]; exact hD
theorem gf_9_5 (hx : p.tables.exec = Jvm.exec) (hb : c.code = cc) (htg : ∀ w ∈ wsG, w.before args s = true) {own : String} {index : Nat} (hown : s.vm.findClass own = some m.cls) (hK : Kt G s) (hW : Wh G x y H) (a : Fin 10 × Fin 4) (hl : Cond.fieldLink own index "RobotCell$Store" "left" "I" ∈ wsG) (hdg : decode cc pc = .ok (.getfield index, 3)) (kk : W p l e R s m args below meth c H locs cells slots Q (F0 m (pc + 3) ls (.int (x 9 ↑a.1 ↑a.2 5) :: rest))) : W p l e R s m args below meth c H locs cells slots Q (F0 m pc ls (.ref (gA G 9 ↑a.1 ↑a.2) :: rest)) := by
  obtain ⟨q0, h0, h2⟩ := wl_get (G := G) (x := x) (y := y) (id_9 a)
  rw [(mm_c (by decide))] at h2
  exact va_get (ci := 11) (C := RX9) (T := TX9) (N := 7) (v := .int (x 9 ↑a.1 ↑a.2 5)) hx hb htg inG_wsX90 hown hK.1 hW.1 q0 h2 rfl 5 (by decide) (htg _ hl) (fun _ h9 => h9) rfl hdg kk
theorem pf_9_5 (hx : p.tables.exec = Jvm.exec) (hb : c.code = cc) (htg : ∀ w ∈ wsG, w.before args s = true) {own : String} {index : Nat} (hown : s.vm.findClass own = some m.cls) (hK : Kt G s) (hW : Wh G x y H) (hS : va_S (gF G) H0 H locs) (a : Fin 10 × Fin 4) (hl : Cond.fieldLink own index "RobotCell$Store" "left" "I" ∈ wsG) {v : Int32} (hdg : decode cc pc = .ok (.putfield index, 3)) (kk : ∀ (H1 : Heap) (locs1 : List Loc), Wh G (up4 x 9 ↑a.1 ↑a.2 5 v) y H1 → va_S (gF G) H0 H1 locs1 → W p l e R s m args below meth c H1 locs1 cells slots Q (F0 m (pc + 3) ls rest)) : W p l e R s m args below meth c H locs cells slots Q (F0 m pc ls (.int v :: .ref (gA G 9 ↑a.1 ↑a.2) :: rest)) := by
  obtain ⟨q0, h0, h2⟩ := wl_get (G := G) (x := x) (y := y) (id_9 a)
  rw [(mm_c (by decide))] at h2
  have hs := wl_set_c (G := G) (x := x) (y := y) (s := 5) (v := v) (by decide) hW.2 h0
  refine va_put (ci := 11) (C := RX9) (T := TX9) (N := 7) (v := .int v) (ty := .int) hx hb htg inG_wsX90 tyX9 tyX9_ok nmX9 hown hK.1 hW.1 hW.2 hS q0 h2 rfl 5 (by decide) (htg _ hl) (fun _ h9 => h9) rfl (by decide +kernel) rfl rfl (Nat.le_of_ble_eq_true rfl) hdg (fun H1 locs1 hP hD hS => kk H1 locs1 ⟨?_, ?_⟩ hS)
  · rw [← hs]; exact hP
  · rw [← hs]; exact hD
theorem gf_9_6 (hx : p.tables.exec = Jvm.exec) (hb : c.code = cc) (htg : ∀ w ∈ wsG, w.before args s = true) {own : String} {index : Nat} (hown : s.vm.findClass own = some m.cls) (hK : Kt G s) (hW : Wh G x y H) (a : Fin 10 × Fin 4) (hl : Cond.fieldLink own index "RobotCell$Store" "parts" "[I" ∈ wsG) (hdg : decode cc pc = .ok (.getfield index, 3)) (kk : W p l e R s m args below meth c H locs cells slots Q (F0 m (pc + 3) ls (.ref (gA G 10 ↑a.1 ↑a.2) :: rest))) : W p l e R s m args below meth c H locs cells slots Q (F0 m pc ls (.ref (gA G 9 ↑a.1 ↑a.2) :: rest)) := by
  obtain ⟨q0, h0, h2⟩ := wl_get (G := G) (x := x) (y := y) (id_9 a)
  rw [(mm_c (by decide))] at h2
  exact va_get (ci := 11) (C := RX9) (T := TX9) (N := 7) (v := .ref (gA G 10 ↑a.1 ↑a.2)) hx hb htg inG_wsX90 hown hK.1 hW.1 q0 h2 rfl 6 (by decide) (htg _ hl) (fun _ h9 => h9) rfl hdg kk
theorem rc_9 (hK : Kt G s) (hW : Wh G x y H) (a : Fin 10 × Fin 4) : ∃ cell : Cell, H[(gA G 9 ↑a.1 ↑a.2)]? = some cell ∧ cell.vm.isStatics = false ∧ s.vm.findClass RX9 = some cell.cls := by
  obtain ⟨q0, h0, h2⟩ := wl_get (G := G) (x := x) (y := y) (id_9 a)
  exact va_recv hK.1 hW.1 (ci := 11) (q := (RX9, TX9, 7)) rfl h2
theorem al_10 (hx : p.tables.exec = Jvm.exec) (hb : c.code = cc) (hK : Kt G s) (hW : Wh G x y H) (a : Fin 10 × Fin 4) {i : Int32} (hin : vp_in i 4) (hdg : decode cc pc = .ok (.iaload, 1)) (kk : W p l e R s m args below meth c H locs cells slots Q (F0 m (pc + 1) ls (.int (x 10 ↑a.1 ↑a.2 i.toNatClampNeg) :: rest))) : W p l e R s m args below meth c H locs cells slots Q (F0 m pc ls (.int i :: .ref (gA G 10 ↑a.1 ↑a.2) :: rest)) := by
  obtain ⟨q0, h0, h2⟩ := wl_get (G := G) (x := x) (y := y) (id_10 a)
  rw [(mm_c (by decide))] at h2
  exact va_iald hx hb hK.1 hW.1 q0 0 h2 rfl hin hdg kk
theorem as_10 (hx : p.tables.exec = Jvm.exec) (hb : c.code = cc) (hK : Kt G s) (hW : Wh G x y H) (hS : va_S (gF G) H0 H locs) (a : Fin 10 × Fin 4) {i v : Int32} (hin : vp_in i 4) (hdg : decode cc pc = .ok (.iastore, 1)) (kk : ∀ (H1 : Heap) (locs1 : List Loc), Wh G (up4 x 10 ↑a.1 ↑a.2 i.toNatClampNeg v) y H1 → va_S (gF G) H0 H1 locs1 → W p l e R s m args below meth c H1 locs1 cells slots Q (F0 m (pc + 1) ls rest)) : W p l e R s m args below meth c H locs cells slots Q (F0 m pc ls (.int v :: .int i :: .ref (gA G 10 ↑a.1 ↑a.2) :: rest)) := by
  obtain ⟨q0, h0, h2⟩ := wl_get (G := G) (x := x) (y := y) (id_10 a)
  rw [(mm_c (by decide))] at h2
  have hs := wl_set_c (G := G) (x := x) (y := y) (s := i.toNatClampNeg) (v := v) (by decide) hW.2 h0
  refine va_iast hx hb hK.1 hW.1 hW.2 hS q0 0 h2 rfl hin hdg (fun H1 locs1 hP hD hS => kk H1 locs1 ⟨?_, ?_⟩ hS)
  · rw [← hs]; exact hP
  · rw [← hs]; exact hD
theorem an_10 (hx : p.tables.exec = Jvm.exec) (hb : c.code = cc) (hK : Kt G s) (hW : Wh G x y H) (a : Fin 10 × Fin 4) (hdg : decode cc pc = .ok (.arraylength, 1)) (kk : W p l e R s m args below meth c H locs cells slots Q (F0 m (pc + 1) ls (.int 4 :: rest))) : W p l e R s m args below meth c H locs cells slots Q (F0 m pc ls (.ref (gA G 10 ↑a.1 ↑a.2) :: rest)) := by
  obtain ⟨q0, h0, h2⟩ := wl_get (G := G) (x := x) (y := y) (id_10 a)
  exact va_alen hx hb hK.1 hW.1 q0 0 h2 rfl rfl hdg kk
theorem al_11 (hx : p.tables.exec = Jvm.exec) (hb : c.code = cc) (hK : Kt G s) (hW : Wh G x y H) (a : Fin 10) {i : Int32} (hin : vp_in i 3) (hdg : decode cc pc = .ok (.aaload, 1)) (kk : W p l e R s m args below meth c H locs cells slots Q (F0 m (pc + 1) ls (.ref (gA G 9 ↑a i.toNatClampNeg) :: rest))) : W p l e R s m args below meth c H locs cells slots Q (F0 m pc ls (.int i :: .ref (gA G 11 ↑a 0) :: rest)) := by
  obtain ⟨q0, h0, h2⟩ := wl_get (G := G) (x := x) (y := y) (id_11 a)
  exact va_aldq hx hb hK.1 hW.1 q0 3 h2 rfl hin hdg kk
theorem an_11 (hx : p.tables.exec = Jvm.exec) (hb : c.code = cc) (hK : Kt G s) (hW : Wh G x y H) (a : Fin 10) (hdg : decode cc pc = .ok (.arraylength, 1)) (kk : W p l e R s m args below meth c H locs cells slots Q (F0 m (pc + 1) ls (.int 3 :: rest))) : W p l e R s m args below meth c H locs cells slots Q (F0 m pc ls (.ref (gA G 11 ↑a 0) :: rest)) := by
  obtain ⟨q0, h0, h2⟩ := wl_get (G := G) (x := x) (y := y) (id_11 a)
  exact va_alen hx hb hK.1 hW.1 q0 3 h2 rfl rfl hdg kk
theorem gf_12_0 (hx : p.tables.exec = Jvm.exec) (hb : c.code = cc) (htg : ∀ w ∈ wsG, w.before args s = true) {own : String} {index : Nat} (hown : s.vm.findClass own = some m.cls) (hK : Kt G s) (hW : Wh G x y H) (a : Fin 10 × Fin 31) (hl : Cond.fieldLink own index "RobotCell$Job" "arm" "I" ∈ wsG) (hdg : decode cc pc = .ok (.getfield index, 3)) (kk : W p l e R s m args below meth c H locs cells slots Q (F0 m (pc + 3) ls (.int (x 12 ↑a.1 ↑a.2 0) :: rest))) : W p l e R s m args below meth c H locs cells slots Q (F0 m pc ls (.ref (gA G 12 ↑a.1 ↑a.2) :: rest)) := by
  obtain ⟨q0, h0, h2⟩ := wl_get (G := G) (x := x) (y := y) (id_12 a)
  rw [(mm_c (by decide))] at h2
  exact va_get (ci := 7) (C := RX5) (T := TX5) (N := 10) (v := .int (x 12 ↑a.1 ↑a.2 0)) hx hb htg inG_wsX50 hown hK.1 hW.1 q0 h2 rfl 0 (by decide) (htg _ hl) (fun _ h9 => h9) rfl hdg kk
theorem pf_12_0 (hx : p.tables.exec = Jvm.exec) (hb : c.code = cc) (htg : ∀ w ∈ wsG, w.before args s = true) {own : String} {index : Nat} (hown : s.vm.findClass own = some m.cls) (hK : Kt G s) (hW : Wh G x y H) (hS : va_S (gF G) H0 H locs) (a : Fin 10 × Fin 31) (hl : Cond.fieldLink own index "RobotCell$Job" "arm" "I" ∈ wsG) {v : Int32} (hdg : decode cc pc = .ok (.putfield index, 3)) (kk : ∀ (H1 : Heap) (locs1 : List Loc), Wh G (up4 x 12 ↑a.1 ↑a.2 0 v) y H1 → va_S (gF G) H0 H1 locs1 → W p l e R s m args below meth c H1 locs1 cells slots Q (F0 m (pc + 3) ls rest)) : W p l e R s m args below meth c H locs cells slots Q (F0 m pc ls (.int v :: .ref (gA G 12 ↑a.1 ↑a.2) :: rest)) := by
  obtain ⟨q0, h0, h2⟩ := wl_get (G := G) (x := x) (y := y) (id_12 a)
  rw [(mm_c (by decide))] at h2
  have hs := wl_set_c (G := G) (x := x) (y := y) (s := 0) (v := v) (by decide) hW.2 h0
  refine va_put (ci := 7) (C := RX5) (T := TX5) (N := 10) (v := .int v) (ty := .int) hx hb htg inG_wsX50 tyX5 tyX5_ok nmX5 hown hK.1 hW.1 hW.2 hS q0 h2 rfl 0 (by decide) (htg _ hl) (fun _ h9 => h9) rfl (by decide +kernel) rfl rfl (Nat.le_of_ble_eq_true rfl) hdg (fun H1 locs1 hP hD hS => kk H1 locs1 ⟨?_, ?_⟩ hS)
  · rw [← hs]; exact hP
  · rw [← hs]; exact hD
theorem gf_12_1 (hx : p.tables.exec = Jvm.exec) (hb : c.code = cc) (htg : ∀ w ∈ wsG, w.before args s = true) {own : String} {index : Nat} (hown : s.vm.findClass own = some m.cls) (hK : Kt G s) (hW : Wh G x y H) (a : Fin 10 × Fin 31) (hl : Cond.fieldLink own index "RobotCell$Job" "path" "I" ∈ wsG) (hdg : decode cc pc = .ok (.getfield index, 3)) (kk : W p l e R s m args below meth c H locs cells slots Q (F0 m (pc + 3) ls (.int (x 12 ↑a.1 ↑a.2 1) :: rest))) : W p l e R s m args below meth c H locs cells slots Q (F0 m pc ls (.ref (gA G 12 ↑a.1 ↑a.2) :: rest)) := by
  obtain ⟨q0, h0, h2⟩ := wl_get (G := G) (x := x) (y := y) (id_12 a)
  rw [(mm_c (by decide))] at h2
  exact va_get (ci := 7) (C := RX5) (T := TX5) (N := 10) (v := .int (x 12 ↑a.1 ↑a.2 1)) hx hb htg inG_wsX50 hown hK.1 hW.1 q0 h2 rfl 1 (by decide) (htg _ hl) (fun _ h9 => h9) rfl hdg kk
theorem pf_12_1 (hx : p.tables.exec = Jvm.exec) (hb : c.code = cc) (htg : ∀ w ∈ wsG, w.before args s = true) {own : String} {index : Nat} (hown : s.vm.findClass own = some m.cls) (hK : Kt G s) (hW : Wh G x y H) (hS : va_S (gF G) H0 H locs) (a : Fin 10 × Fin 31) (hl : Cond.fieldLink own index "RobotCell$Job" "path" "I" ∈ wsG) {v : Int32} (hdg : decode cc pc = .ok (.putfield index, 3)) (kk : ∀ (H1 : Heap) (locs1 : List Loc), Wh G (up4 x 12 ↑a.1 ↑a.2 1 v) y H1 → va_S (gF G) H0 H1 locs1 → W p l e R s m args below meth c H1 locs1 cells slots Q (F0 m (pc + 3) ls rest)) : W p l e R s m args below meth c H locs cells slots Q (F0 m pc ls (.int v :: .ref (gA G 12 ↑a.1 ↑a.2) :: rest)) := by
  obtain ⟨q0, h0, h2⟩ := wl_get (G := G) (x := x) (y := y) (id_12 a)
  rw [(mm_c (by decide))] at h2
  have hs := wl_set_c (G := G) (x := x) (y := y) (s := 1) (v := v) (by decide) hW.2 h0
  refine va_put (ci := 7) (C := RX5) (T := TX5) (N := 10) (v := .int v) (ty := .int) hx hb htg inG_wsX50 tyX5 tyX5_ok nmX5 hown hK.1 hW.1 hW.2 hS q0 h2 rfl 1 (by decide) (htg _ hl) (fun _ h9 => h9) rfl (by decide +kernel) rfl rfl (Nat.le_of_ble_eq_true rfl) hdg (fun H1 locs1 hP hD hS => kk H1 locs1 ⟨?_, ?_⟩ hS)
  · rw [← hs]; exact hP
  · rw [← hs]; exact hD
theorem gf_12_2 (hx : p.tables.exec = Jvm.exec) (hb : c.code = cc) (htg : ∀ w ∈ wsG, w.before args s = true) {own : String} {index : Nat} (hown : s.vm.findClass own = some m.cls) (hK : Kt G s) (hW : Wh G x y H) (a : Fin 10 × Fin 31) (hl : Cond.fieldLink own index "RobotCell$Job" "length" "I" ∈ wsG) (hdg : decode cc pc = .ok (.getfield index, 3)) (kk : W p l e R s m args below meth c H locs cells slots Q (F0 m (pc + 3) ls (.int (x 12 ↑a.1 ↑a.2 2) :: rest))) : W p l e R s m args below meth c H locs cells slots Q (F0 m pc ls (.ref (gA G 12 ↑a.1 ↑a.2) :: rest)) := by
  obtain ⟨q0, h0, h2⟩ := wl_get (G := G) (x := x) (y := y) (id_12 a)
  rw [(mm_c (by decide))] at h2
  exact va_get (ci := 7) (C := RX5) (T := TX5) (N := 10) (v := .int (x 12 ↑a.1 ↑a.2 2)) hx hb htg inG_wsX50 hown hK.1 hW.1 q0 h2 rfl 2 (by decide) (htg _ hl) (fun _ h9 => h9) rfl hdg kk
theorem pf_12_2 (hx : p.tables.exec = Jvm.exec) (hb : c.code = cc) (htg : ∀ w ∈ wsG, w.before args s = true) {own : String} {index : Nat} (hown : s.vm.findClass own = some m.cls) (hK : Kt G s) (hW : Wh G x y H) (hS : va_S (gF G) H0 H locs) (a : Fin 10 × Fin 31) (hl : Cond.fieldLink own index "RobotCell$Job" "length" "I" ∈ wsG) {v : Int32} (hdg : decode cc pc = .ok (.putfield index, 3)) (kk : ∀ (H1 : Heap) (locs1 : List Loc), Wh G (up4 x 12 ↑a.1 ↑a.2 2 v) y H1 → va_S (gF G) H0 H1 locs1 → W p l e R s m args below meth c H1 locs1 cells slots Q (F0 m (pc + 3) ls rest)) : W p l e R s m args below meth c H locs cells slots Q (F0 m pc ls (.int v :: .ref (gA G 12 ↑a.1 ↑a.2) :: rest)) := by
  obtain ⟨q0, h0, h2⟩ := wl_get (G := G) (x := x) (y := y) (id_12 a)
  rw [(mm_c (by decide))] at h2
  have hs := wl_set_c (G := G) (x := x) (y := y) (s := 2) (v := v) (by decide) hW.2 h0
  refine va_put (ci := 7) (C := RX5) (T := TX5) (N := 10) (v := .int v) (ty := .int) hx hb htg inG_wsX50 tyX5 tyX5_ok nmX5 hown hK.1 hW.1 hW.2 hS q0 h2 rfl 2 (by decide) (htg _ hl) (fun _ h9 => h9) rfl (by decide +kernel) rfl rfl (Nat.le_of_ble_eq_true rfl) hdg (fun H1 locs1 hP hD hS => kk H1 locs1 ⟨?_, ?_⟩ hS)
  · rw [← hs]; exact hP
  · rw [← hs]; exact hD
theorem gf_12_3 (hx : p.tables.exec = Jvm.exec) (hb : c.code = cc) (htg : ∀ w ∈ wsG, w.before args s = true) {own : String} {index : Nat} (hown : s.vm.findClass own = some m.cls) (hK : Kt G s) (hW : Wh G x y H) (a : Fin 10 × Fin 31) (hl : Cond.fieldLink own index "RobotCell$Job" "work" "I" ∈ wsG) (hdg : decode cc pc = .ok (.getfield index, 3)) (kk : W p l e R s m args below meth c H locs cells slots Q (F0 m (pc + 3) ls (.int (x 12 ↑a.1 ↑a.2 3) :: rest))) : W p l e R s m args below meth c H locs cells slots Q (F0 m pc ls (.ref (gA G 12 ↑a.1 ↑a.2) :: rest)) := by
  obtain ⟨q0, h0, h2⟩ := wl_get (G := G) (x := x) (y := y) (id_12 a)
  rw [(mm_c (by decide))] at h2
  exact va_get (ci := 7) (C := RX5) (T := TX5) (N := 10) (v := .int (x 12 ↑a.1 ↑a.2 3)) hx hb htg inG_wsX50 hown hK.1 hW.1 q0 h2 rfl 3 (by decide) (htg _ hl) (fun _ h9 => h9) rfl hdg kk
theorem pf_12_3 (hx : p.tables.exec = Jvm.exec) (hb : c.code = cc) (htg : ∀ w ∈ wsG, w.before args s = true) {own : String} {index : Nat} (hown : s.vm.findClass own = some m.cls) (hK : Kt G s) (hW : Wh G x y H) (hS : va_S (gF G) H0 H locs) (a : Fin 10 × Fin 31) (hl : Cond.fieldLink own index "RobotCell$Job" "work" "I" ∈ wsG) {v : Int32} (hdg : decode cc pc = .ok (.putfield index, 3)) (kk : ∀ (H1 : Heap) (locs1 : List Loc), Wh G (up4 x 12 ↑a.1 ↑a.2 3 v) y H1 → va_S (gF G) H0 H1 locs1 → W p l e R s m args below meth c H1 locs1 cells slots Q (F0 m (pc + 3) ls rest)) : W p l e R s m args below meth c H locs cells slots Q (F0 m pc ls (.int v :: .ref (gA G 12 ↑a.1 ↑a.2) :: rest)) := by
  obtain ⟨q0, h0, h2⟩ := wl_get (G := G) (x := x) (y := y) (id_12 a)
  rw [(mm_c (by decide))] at h2
  have hs := wl_set_c (G := G) (x := x) (y := y) (s := 3) (v := v) (by decide) hW.2 h0
  refine va_put (ci := 7) (C := RX5) (T := TX5) (N := 10) (v := .int v) (ty := .int) hx hb htg inG_wsX50 tyX5 tyX5_ok nmX5 hown hK.1 hW.1 hW.2 hS q0 h2 rfl 3 (by decide) (htg _ hl) (fun _ h9 => h9) rfl (by decide +kernel) rfl rfl (Nat.le_of_ble_eq_true rfl) hdg (fun H1 locs1 hP hD hS => kk H1 locs1 ⟨?_, ?_⟩ hS)
  · rw [← hs]; exact hP
  · rw [← hs]; exact hD
theorem gf_12_4 (hx : p.tables.exec = Jvm.exec) (hb : c.code = cc) (htg : ∀ w ∈ wsG, w.before args s = true) {own : String} {index : Nat} (hown : s.vm.findClass own = some m.cls) (hK : Kt G s) (hW : Wh G x y H) (a : Fin 10 × Fin 31) (hl : Cond.fieldLink own index "RobotCell$Job" "weight" "I" ∈ wsG) (hdg : decode cc pc = .ok (.getfield index, 3)) (kk : W p l e R s m args below meth c H locs cells slots Q (F0 m (pc + 3) ls (.int (x 12 ↑a.1 ↑a.2 4) :: rest))) : W p l e R s m args below meth c H locs cells slots Q (F0 m pc ls (.ref (gA G 12 ↑a.1 ↑a.2) :: rest)) := by
  obtain ⟨q0, h0, h2⟩ := wl_get (G := G) (x := x) (y := y) (id_12 a)
  rw [(mm_c (by decide))] at h2
  exact va_get (ci := 7) (C := RX5) (T := TX5) (N := 10) (v := .int (x 12 ↑a.1 ↑a.2 4)) hx hb htg inG_wsX50 hown hK.1 hW.1 q0 h2 rfl 4 (by decide) (htg _ hl) (fun _ h9 => h9) rfl hdg kk
theorem pf_12_4 (hx : p.tables.exec = Jvm.exec) (hb : c.code = cc) (htg : ∀ w ∈ wsG, w.before args s = true) {own : String} {index : Nat} (hown : s.vm.findClass own = some m.cls) (hK : Kt G s) (hW : Wh G x y H) (hS : va_S (gF G) H0 H locs) (a : Fin 10 × Fin 31) (hl : Cond.fieldLink own index "RobotCell$Job" "weight" "I" ∈ wsG) {v : Int32} (hdg : decode cc pc = .ok (.putfield index, 3)) (kk : ∀ (H1 : Heap) (locs1 : List Loc), Wh G (up4 x 12 ↑a.1 ↑a.2 4 v) y H1 → va_S (gF G) H0 H1 locs1 → W p l e R s m args below meth c H1 locs1 cells slots Q (F0 m (pc + 3) ls rest)) : W p l e R s m args below meth c H locs cells slots Q (F0 m pc ls (.int v :: .ref (gA G 12 ↑a.1 ↑a.2) :: rest)) := by
  obtain ⟨q0, h0, h2⟩ := wl_get (G := G) (x := x) (y := y) (id_12 a)
  rw [(mm_c (by decide))] at h2
  have hs := wl_set_c (G := G) (x := x) (y := y) (s := 4) (v := v) (by decide) hW.2 h0
  refine va_put (ci := 7) (C := RX5) (T := TX5) (N := 10) (v := .int v) (ty := .int) hx hb htg inG_wsX50 tyX5 tyX5_ok nmX5 hown hK.1 hW.1 hW.2 hS q0 h2 rfl 4 (by decide) (htg _ hl) (fun _ h9 => h9) rfl (by decide +kernel) rfl rfl (Nat.le_of_ble_eq_true rfl) hdg (fun H1 locs1 hP hD hS => kk H1 locs1 ⟨?_, ?_⟩ hS)
  · rw [← hs]; exact hP
  · rw [← hs]; exact hD
theorem gf_12_5 (hx : p.tables.exec = Jvm.exec) (hb : c.code = cc) (htg : ∀ w ∈ wsG, w.before args s = true) {own : String} {index : Nat} (hown : s.vm.findClass own = some m.cls) (hK : Kt G s) (hW : Wh G x y H) (a : Fin 10 × Fin 31) (hl : Cond.fieldLink own index "RobotCell$Job" "source" "I" ∈ wsG) (hdg : decode cc pc = .ok (.getfield index, 3)) (kk : W p l e R s m args below meth c H locs cells slots Q (F0 m (pc + 3) ls (.int (x 12 ↑a.1 ↑a.2 5) :: rest))) : W p l e R s m args below meth c H locs cells slots Q (F0 m pc ls (.ref (gA G 12 ↑a.1 ↑a.2) :: rest)) := by
  obtain ⟨q0, h0, h2⟩ := wl_get (G := G) (x := x) (y := y) (id_12 a)
  rw [(mm_c (by decide))] at h2
  exact va_get (ci := 7) (C := RX5) (T := TX5) (N := 10) (v := .int (x 12 ↑a.1 ↑a.2 5)) hx hb htg inG_wsX50 hown hK.1 hW.1 q0 h2 rfl 5 (by decide) (htg _ hl) (fun _ h9 => h9) rfl hdg kk
theorem pf_12_5 (hx : p.tables.exec = Jvm.exec) (hb : c.code = cc) (htg : ∀ w ∈ wsG, w.before args s = true) {own : String} {index : Nat} (hown : s.vm.findClass own = some m.cls) (hK : Kt G s) (hW : Wh G x y H) (hS : va_S (gF G) H0 H locs) (a : Fin 10 × Fin 31) (hl : Cond.fieldLink own index "RobotCell$Job" "source" "I" ∈ wsG) {v : Int32} (hdg : decode cc pc = .ok (.putfield index, 3)) (kk : ∀ (H1 : Heap) (locs1 : List Loc), Wh G (up4 x 12 ↑a.1 ↑a.2 5 v) y H1 → va_S (gF G) H0 H1 locs1 → W p l e R s m args below meth c H1 locs1 cells slots Q (F0 m (pc + 3) ls rest)) : W p l e R s m args below meth c H locs cells slots Q (F0 m pc ls (.int v :: .ref (gA G 12 ↑a.1 ↑a.2) :: rest)) := by
  obtain ⟨q0, h0, h2⟩ := wl_get (G := G) (x := x) (y := y) (id_12 a)
  rw [(mm_c (by decide))] at h2
  have hs := wl_set_c (G := G) (x := x) (y := y) (s := 5) (v := v) (by decide) hW.2 h0
  refine va_put (ci := 7) (C := RX5) (T := TX5) (N := 10) (v := .int v) (ty := .int) hx hb htg inG_wsX50 tyX5 tyX5_ok nmX5 hown hK.1 hW.1 hW.2 hS q0 h2 rfl 5 (by decide) (htg _ hl) (fun _ h9 => h9) rfl (by decide +kernel) rfl rfl (Nat.le_of_ble_eq_true rfl) hdg (fun H1 locs1 hP hD hS => kk H1 locs1 ⟨?_, ?_⟩ hS)
  · rw [← hs]; exact hP
  · rw [← hs]; exact hD
theorem gf_12_6 (hx : p.tables.exec = Jvm.exec) (hb : c.code = cc) (htg : ∀ w ∈ wsG, w.before args s = true) {own : String} {index : Nat} (hown : s.vm.findClass own = some m.cls) (hK : Kt G s) (hW : Wh G x y H) (a : Fin 10 × Fin 31) (hl : Cond.fieldLink own index "RobotCell$Job" "target" "I" ∈ wsG) (hdg : decode cc pc = .ok (.getfield index, 3)) (kk : W p l e R s m args below meth c H locs cells slots Q (F0 m (pc + 3) ls (.int (x 12 ↑a.1 ↑a.2 6) :: rest))) : W p l e R s m args below meth c H locs cells slots Q (F0 m pc ls (.ref (gA G 12 ↑a.1 ↑a.2) :: rest)) := by
  obtain ⟨q0, h0, h2⟩ := wl_get (G := G) (x := x) (y := y) (id_12 a)
  rw [(mm_c (by decide))] at h2
  exact va_get (ci := 7) (C := RX5) (T := TX5) (N := 10) (v := .int (x 12 ↑a.1 ↑a.2 6)) hx hb htg inG_wsX50 hown hK.1 hW.1 q0 h2 rfl 6 (by decide) (htg _ hl) (fun _ h9 => h9) rfl hdg kk
theorem pf_12_6 (hx : p.tables.exec = Jvm.exec) (hb : c.code = cc) (htg : ∀ w ∈ wsG, w.before args s = true) {own : String} {index : Nat} (hown : s.vm.findClass own = some m.cls) (hK : Kt G s) (hW : Wh G x y H) (hS : va_S (gF G) H0 H locs) (a : Fin 10 × Fin 31) (hl : Cond.fieldLink own index "RobotCell$Job" "target" "I" ∈ wsG) {v : Int32} (hdg : decode cc pc = .ok (.putfield index, 3)) (kk : ∀ (H1 : Heap) (locs1 : List Loc), Wh G (up4 x 12 ↑a.1 ↑a.2 6 v) y H1 → va_S (gF G) H0 H1 locs1 → W p l e R s m args below meth c H1 locs1 cells slots Q (F0 m (pc + 3) ls rest)) : W p l e R s m args below meth c H locs cells slots Q (F0 m pc ls (.int v :: .ref (gA G 12 ↑a.1 ↑a.2) :: rest)) := by
  obtain ⟨q0, h0, h2⟩ := wl_get (G := G) (x := x) (y := y) (id_12 a)
  rw [(mm_c (by decide))] at h2
  have hs := wl_set_c (G := G) (x := x) (y := y) (s := 6) (v := v) (by decide) hW.2 h0
  refine va_put (ci := 7) (C := RX5) (T := TX5) (N := 10) (v := .int v) (ty := .int) hx hb htg inG_wsX50 tyX5 tyX5_ok nmX5 hown hK.1 hW.1 hW.2 hS q0 h2 rfl 6 (by decide) (htg _ hl) (fun _ h9 => h9) rfl (by decide +kernel) rfl rfl (Nat.le_of_ble_eq_true rfl) hdg (fun H1 locs1 hP hD hS => kk H1 locs1 ⟨?_, ?_⟩ hS)
  · rw [← hs]; exact hP
  · rw [← hs]; exact hD
theorem gf_12_7 (hx : p.tables.exec = Jvm.exec) (hb : c.code = cc) (htg : ∀ w ∈ wsG, w.before args s = true) {own : String} {index : Nat} (hown : s.vm.findClass own = some m.cls) (hK : Kt G s) (hW : Wh G x y H) (a : Fin 10 × Fin 31) (hl : Cond.fieldLink own index "RobotCell$Job" "state" "I" ∈ wsG) (hdg : decode cc pc = .ok (.getfield index, 3)) (kk : W p l e R s m args below meth c H locs cells slots Q (F0 m (pc + 3) ls (.int (x 12 ↑a.1 ↑a.2 7) :: rest))) : W p l e R s m args below meth c H locs cells slots Q (F0 m pc ls (.ref (gA G 12 ↑a.1 ↑a.2) :: rest)) := by
  obtain ⟨q0, h0, h2⟩ := wl_get (G := G) (x := x) (y := y) (id_12 a)
  rw [(mm_c (by decide))] at h2
  exact va_get (ci := 7) (C := RX5) (T := TX5) (N := 10) (v := .int (x 12 ↑a.1 ↑a.2 7)) hx hb htg inG_wsX50 hown hK.1 hW.1 q0 h2 rfl 7 (by decide) (htg _ hl) (fun _ h9 => h9) rfl hdg kk
theorem pf_12_7 (hx : p.tables.exec = Jvm.exec) (hb : c.code = cc) (htg : ∀ w ∈ wsG, w.before args s = true) {own : String} {index : Nat} (hown : s.vm.findClass own = some m.cls) (hK : Kt G s) (hW : Wh G x y H) (hS : va_S (gF G) H0 H locs) (a : Fin 10 × Fin 31) (hl : Cond.fieldLink own index "RobotCell$Job" "state" "I" ∈ wsG) {v : Int32} (hdg : decode cc pc = .ok (.putfield index, 3)) (kk : ∀ (H1 : Heap) (locs1 : List Loc), Wh G (up4 x 12 ↑a.1 ↑a.2 7 v) y H1 → va_S (gF G) H0 H1 locs1 → W p l e R s m args below meth c H1 locs1 cells slots Q (F0 m (pc + 3) ls rest)) : W p l e R s m args below meth c H locs cells slots Q (F0 m pc ls (.int v :: .ref (gA G 12 ↑a.1 ↑a.2) :: rest)) := by
  obtain ⟨q0, h0, h2⟩ := wl_get (G := G) (x := x) (y := y) (id_12 a)
  rw [(mm_c (by decide))] at h2
  have hs := wl_set_c (G := G) (x := x) (y := y) (s := 7) (v := v) (by decide) hW.2 h0
  refine va_put (ci := 7) (C := RX5) (T := TX5) (N := 10) (v := .int v) (ty := .int) hx hb htg inG_wsX50 tyX5 tyX5_ok nmX5 hown hK.1 hW.1 hW.2 hS q0 h2 rfl 7 (by decide) (htg _ hl) (fun _ h9 => h9) rfl (by decide +kernel) rfl rfl (Nat.le_of_ble_eq_true rfl) hdg (fun H1 locs1 hP hD hS => kk H1 locs1 ⟨?_, ?_⟩ hS)
  · rw [← hs]; exact hP
  · rw [← hs]; exact hD
theorem gf_12_8 (hx : p.tables.exec = Jvm.exec) (hb : c.code = cc) (htg : ∀ w ∈ wsG, w.before args s = true) {own : String} {index : Nat} (hown : s.vm.findClass own = some m.cls) (hK : Kt G s) (hW : Wh G x y H) (a : Fin 10 × Fin 31) (hl : Cond.fieldLink own index "RobotCell$Job" "started" "I" ∈ wsG) (hdg : decode cc pc = .ok (.getfield index, 3)) (kk : W p l e R s m args below meth c H locs cells slots Q (F0 m (pc + 3) ls (.int (x 12 ↑a.1 ↑a.2 8) :: rest))) : W p l e R s m args below meth c H locs cells slots Q (F0 m pc ls (.ref (gA G 12 ↑a.1 ↑a.2) :: rest)) := by
  obtain ⟨q0, h0, h2⟩ := wl_get (G := G) (x := x) (y := y) (id_12 a)
  rw [(mm_c (by decide))] at h2
  exact va_get (ci := 7) (C := RX5) (T := TX5) (N := 10) (v := .int (x 12 ↑a.1 ↑a.2 8)) hx hb htg inG_wsX50 hown hK.1 hW.1 q0 h2 rfl 8 (by decide) (htg _ hl) (fun _ h9 => h9) rfl hdg kk
theorem pf_12_8 (hx : p.tables.exec = Jvm.exec) (hb : c.code = cc) (htg : ∀ w ∈ wsG, w.before args s = true) {own : String} {index : Nat} (hown : s.vm.findClass own = some m.cls) (hK : Kt G s) (hW : Wh G x y H) (hS : va_S (gF G) H0 H locs) (a : Fin 10 × Fin 31) (hl : Cond.fieldLink own index "RobotCell$Job" "started" "I" ∈ wsG) {v : Int32} (hdg : decode cc pc = .ok (.putfield index, 3)) (kk : ∀ (H1 : Heap) (locs1 : List Loc), Wh G (up4 x 12 ↑a.1 ↑a.2 8 v) y H1 → va_S (gF G) H0 H1 locs1 → W p l e R s m args below meth c H1 locs1 cells slots Q (F0 m (pc + 3) ls rest)) : W p l e R s m args below meth c H locs cells slots Q (F0 m pc ls (.int v :: .ref (gA G 12 ↑a.1 ↑a.2) :: rest)) := by
  obtain ⟨q0, h0, h2⟩ := wl_get (G := G) (x := x) (y := y) (id_12 a)
  rw [(mm_c (by decide))] at h2
  have hs := wl_set_c (G := G) (x := x) (y := y) (s := 8) (v := v) (by decide) hW.2 h0
  refine va_put (ci := 7) (C := RX5) (T := TX5) (N := 10) (v := .int v) (ty := .int) hx hb htg inG_wsX50 tyX5 tyX5_ok nmX5 hown hK.1 hW.1 hW.2 hS q0 h2 rfl 8 (by decide) (htg _ hl) (fun _ h9 => h9) rfl (by decide +kernel) rfl rfl (Nat.le_of_ble_eq_true rfl) hdg (fun H1 locs1 hP hD hS => kk H1 locs1 ⟨?_, ?_⟩ hS)
  · rw [← hs]; exact hP
  · rw [← hs]; exact hD
theorem gf_12_9 (hx : p.tables.exec = Jvm.exec) (hb : c.code = cc) (htg : ∀ w ∈ wsG, w.before args s = true) {own : String} {index : Nat} (hown : s.vm.findClass own = some m.cls) (hK : Kt G s) (hW : Wh G x y H) (a : Fin 10 × Fin 31) (hl : Cond.fieldLink own index "RobotCell$Job" "ended" "I" ∈ wsG) (hdg : decode cc pc = .ok (.getfield index, 3)) (kk : W p l e R s m args below meth c H locs cells slots Q (F0 m (pc + 3) ls (.int (x 12 ↑a.1 ↑a.2 9) :: rest))) : W p l e R s m args below meth c H locs cells slots Q (F0 m pc ls (.ref (gA G 12 ↑a.1 ↑a.2) :: rest)) := by
  obtain ⟨q0, h0, h2⟩ := wl_get (G := G) (x := x) (y := y) (id_12 a)
  rw [(mm_c (by decide))] at h2
  exact va_get (ci := 7) (C := RX5) (T := TX5) (N := 10) (v := .int (x 12 ↑a.1 ↑a.2 9)) hx hb htg inG_wsX50 hown hK.1 hW.1 q0 h2 rfl 9 (by decide) (htg _ hl) (fun _ h9 => h9) rfl hdg kk
theorem pf_12_9 (hx : p.tables.exec = Jvm.exec) (hb : c.code = cc) (htg : ∀ w ∈ wsG, w.before args s = true) {own : String} {index : Nat} (hown : s.vm.findClass own = some m.cls) (hK : Kt G s) (hW : Wh G x y H) (hS : va_S (gF G) H0 H locs) (a : Fin 10 × Fin 31) (hl : Cond.fieldLink own index "RobotCell$Job" "ended" "I" ∈ wsG) {v : Int32} (hdg : decode cc pc = .ok (.putfield index, 3)) (kk : ∀ (H1 : Heap) (locs1 : List Loc), Wh G (up4 x 12 ↑a.1 ↑a.2 9 v) y H1 → va_S (gF G) H0 H1 locs1 → W p l e R s m args below meth c H1 locs1 cells slots Q (F0 m (pc + 3) ls rest)) : W p l e R s m args below meth c H locs cells slots Q (F0 m pc ls (.int v :: .ref (gA G 12 ↑a.1 ↑a.2) :: rest)) := by
  obtain ⟨q0, h0, h2⟩ := wl_get (G := G) (x := x) (y := y) (id_12 a)
  rw [(mm_c (by decide))] at h2
  have hs := wl_set_c (G := G) (x := x) (y := y) (s := 9) (v := v) (by decide) hW.2 h0
  refine va_put (ci := 7) (C := RX5) (T := TX5) (N := 10) (v := .int v) (ty := .int) hx hb htg inG_wsX50 tyX5 tyX5_ok nmX5 hown hK.1 hW.1 hW.2 hS q0 h2 rfl 9 (by decide) (htg _ hl) (fun _ h9 => h9) rfl (by decide +kernel) rfl rfl (Nat.le_of_ble_eq_true rfl) hdg (fun H1 locs1 hP hD hS => kk H1 locs1 ⟨?_, ?_⟩ hS)
  · rw [← hs]; exact hP
  · rw [← hs]; exact hD
theorem rc_12 (hK : Kt G s) (hW : Wh G x y H) (a : Fin 10 × Fin 31) : ∃ cell : Cell, H[(gA G 12 ↑a.1 ↑a.2)]? = some cell ∧ cell.vm.isStatics = false ∧ s.vm.findClass RX5 = some cell.cls := by
  obtain ⟨q0, h0, h2⟩ := wl_get (G := G) (x := x) (y := y) (id_12 a)
  exact va_recv hK.1 hW.1 (ci := 7) (q := (RX5, TX5, 10)) rfl h2
theorem al_13 (hx : p.tables.exec = Jvm.exec) (hb : c.code = cc) (hK : Kt G s) (hW : Wh G x y H) (a : Fin 10) {i : Int32} (hin : vp_in i 30) (hdg : decode cc pc = .ok (.aaload, 1)) (kk : W p l e R s m args below meth c H locs cells slots Q (F0 m (pc + 1) ls (.ref (gA G 12 ↑a i.toNatClampNeg) :: rest))) : W p l e R s m args below meth c H locs cells slots Q (F0 m pc ls (.int i :: .ref (gA G 13 ↑a 0) :: rest)) := by
  obtain ⟨q0, h0, h2⟩ := wl_get (G := G) (x := x) (y := y) (id_13 a)
  exact va_aldq hx hb hK.1 hW.1 q0 4 h2 rfl hin hdg kk
theorem an_13 (hx : p.tables.exec = Jvm.exec) (hb : c.code = cc) (hK : Kt G s) (hW : Wh G x y H) (a : Fin 10) (hdg : decode cc pc = .ok (.arraylength, 1)) (kk : W p l e R s m args below meth c H locs cells slots Q (F0 m (pc + 1) ls (.int 30 :: rest))) : W p l e R s m args below meth c H locs cells slots Q (F0 m pc ls (.ref (gA G 13 ↑a 0) :: rest)) := by
  obtain ⟨q0, h0, h2⟩ := wl_get (G := G) (x := x) (y := y) (id_13 a)
  exact va_alen hx hb hK.1 hW.1 q0 4 h2 rfl rfl hdg kk
theorem gf_14_0 (hx : p.tables.exec = Jvm.exec) (hb : c.code = cc) (htg : ∀ w ∈ wsG, w.before args s = true) {own : String} {index : Nat} (hown : s.vm.findClass own = some m.cls) (hK : Kt G s) (hW : Wh G x y H) (hl : Cond.fieldLink own index "RobotCell" "now" "LRobotCell$Cell;" ∈ wsG) (hdg : decode cc pc = .ok (.getfield index, 3)) (kk : W p l e R s m args below meth c H locs cells slots Q (F0 m (pc + 3) ls (.ref (gA G 2 0 0) :: rest))) : W p l e R s m args below meth c H locs cells slots Q (F0 m pc ls (.ref (gA G 14 0 0) :: rest)) := by
  obtain ⟨q0, h0, h2⟩ := wl_get (G := G) (x := x) (y := y) (id_14)
  rw [(mm_c (by decide))] at h2
  exact va_get (ci := 13) (C := RX11) (T := TX11) (N := 7) (v := .ref (gA G 2 0 0)) hx hb htg inG_wsX110 hown hK.1 hW.1 q0 h2 rfl 0 (by decide) (htg _ hl) (fun _ h9 => h9) rfl hdg kk
theorem gf_14_1 (hx : p.tables.exec = Jvm.exec) (hb : c.code = cc) (htg : ∀ w ∈ wsG, w.before args s = true) {own : String} {index : Nat} (hown : s.vm.findClass own = some m.cls) (hK : Kt G s) (hW : Wh G x y H) (hl : Cond.fieldLink own index "RobotCell" "trial" "LRobotCell$Cell;" ∈ wsG) (hdg : decode cc pc = .ok (.getfield index, 3)) (kk : W p l e R s m args below meth c H locs cells slots Q (F0 m (pc + 3) ls (.ref (gA G 2 1 0) :: rest))) : W p l e R s m args below meth c H locs cells slots Q (F0 m pc ls (.ref (gA G 14 0 0) :: rest)) := by
  obtain ⟨q0, h0, h2⟩ := wl_get (G := G) (x := x) (y := y) (id_14)
  rw [(mm_c (by decide))] at h2
  exact va_get (ci := 13) (C := RX11) (T := TX11) (N := 7) (v := .ref (gA G 2 1 0)) hx hb htg inG_wsX110 hown hK.1 hW.1 q0 h2 rfl 1 (by decide) (htg _ hl) (fun _ h9 => h9) rfl hdg kk
theorem gf_14_2 (hx : p.tables.exec = Jvm.exec) (hb : c.code = cc) (htg : ∀ w ∈ wsG, w.before args s = true) {own : String} {index : Nat} (hown : s.vm.findClass own = some m.cls) (hK : Kt G s) (hW : Wh G x y H) (hl : Cond.fieldLink own index "RobotCell" "saved" "LRobotCell$Cell;" ∈ wsG) (hdg : decode cc pc = .ok (.getfield index, 3)) (kk : W p l e R s m args below meth c H locs cells slots Q (F0 m (pc + 3) ls (.ref (gA G 2 2 0) :: rest))) : W p l e R s m args below meth c H locs cells slots Q (F0 m pc ls (.ref (gA G 14 0 0) :: rest)) := by
  obtain ⟨q0, h0, h2⟩ := wl_get (G := G) (x := x) (y := y) (id_14)
  rw [(mm_c (by decide))] at h2
  exact va_get (ci := 13) (C := RX11) (T := TX11) (N := 7) (v := .ref (gA G 2 2 0)) hx hb htg inG_wsX110 hown hK.1 hW.1 q0 h2 rfl 2 (by decide) (htg _ hl) (fun _ h9 => h9) rfl hdg kk
theorem gf_14_3 (hx : p.tables.exec = Jvm.exec) (hb : c.code = cc) (htg : ∀ w ∈ wsG, w.before args s = true) {own : String} {index : Nat} (hown : s.vm.findClass own = some m.cls) (hK : Kt G s) (hW : Wh G x y H) (hl : Cond.fieldLink own index "RobotCell" "isSaved" "Z" ∈ wsG) (hdg : decode cc pc = .ok (.getfield index, 3)) (kk : W p l e R s m args below meth c H locs cells slots Q (F0 m (pc + 3) ls (.int (x 14 0 0 3) :: rest))) : W p l e R s m args below meth c H locs cells slots Q (F0 m pc ls (.ref (gA G 14 0 0) :: rest)) := by
  obtain ⟨q0, h0, h2⟩ := wl_get (G := G) (x := x) (y := y) (id_14)
  rw [(mm_c (by decide))] at h2
  exact va_get (ci := 13) (C := RX11) (T := TX11) (N := 7) (v := .int (x 14 0 0 3)) hx hb htg inG_wsX110 hown hK.1 hW.1 q0 h2 rfl 3 (by decide) (htg _ hl) (fun _ h9 => h9) rfl hdg kk
theorem pf_14_3 (hx : p.tables.exec = Jvm.exec) (hb : c.code = cc) (htg : ∀ w ∈ wsG, w.before args s = true) {own : String} {index : Nat} (hown : s.vm.findClass own = some m.cls) (hK : Kt G s) (hW : Wh G x y H) (hS : va_S (gF G) H0 H locs) (hl : Cond.fieldLink own index "RobotCell" "isSaved" "Z" ∈ wsG) {v : Int32} (hv : isB v = true) (hdg : decode cc pc = .ok (.putfield index, 3)) (kk : ∀ (H1 : Heap) (locs1 : List Loc), Wh G (up4 x 14 0 0 3 v) y H1 → va_S (gF G) H0 H1 locs1 → W p l e R s m args below meth c H1 locs1 cells slots Q (F0 m (pc + 3) ls rest)) : W p l e R s m args below meth c H locs cells slots Q (F0 m pc ls (.int v :: .ref (gA G 14 0 0) :: rest)) := by
  obtain ⟨q0, h0, h2⟩ := wl_get (G := G) (x := x) (y := y) (id_14)
  rw [(mm_c (by decide))] at h2
  have hs := wl_set_c (G := G) (x := x) (y := y) (s := 3) (v := v) (by decide) hW.2 h0
  refine va_put (ci := 13) (C := RX11) (T := TX11) (N := 7) (v := .int v) (ty := .boolean) hx hb htg inG_wsX110 tyX11 tyX11_ok nmX11 hown hK.1 hW.1 hW.2 hS q0 h2 rfl 3 (by decide) (htg _ hl) (fun _ h9 => h9) rfl (by decide +kernel) (isB_n hv) (isB_f hv) (Nat.le_of_ble_eq_true rfl) hdg (fun H1 locs1 hP hD hS => kk H1 locs1 ⟨?_, ?_⟩ hS)
  · rw [← hs]; exact hP
  · rw [← hs]; exact hD
theorem gf_14_4 (hx : p.tables.exec = Jvm.exec) (hb : c.code = cc) (htg : ∀ w ∈ wsG, w.before args s = true) {own : String} {index : Nat} (hown : s.vm.findClass own = some m.cls) (hK : Kt G s) (hW : Wh G x y H) (hl : Cond.fieldLink own index "RobotCell" "history" "LRobotCell$History;" ∈ wsG) (hdg : decode cc pc = .ok (.getfield index, 3)) (kk : W p l e R s m args below meth c H locs cells slots Q (F0 m (pc + 3) ls (.ref (gA G 15 0 0) :: rest))) : W p l e R s m args below meth c H locs cells slots Q (F0 m pc ls (.ref (gA G 14 0 0) :: rest)) := by
  obtain ⟨q0, h0, h2⟩ := wl_get (G := G) (x := x) (y := y) (id_14)
  rw [(mm_c (by decide))] at h2
  exact va_get (ci := 13) (C := RX11) (T := TX11) (N := 7) (v := .ref (gA G 15 0 0)) hx hb htg inG_wsX110 hown hK.1 hW.1 q0 h2 rfl 4 (by decide) (htg _ hl) (fun _ h9 => h9) rfl hdg kk
theorem gf_14_5 (hx : p.tables.exec = Jvm.exec) (hb : c.code = cc) (htg : ∀ w ∈ wsG, w.before args s = true) {own : String} {index : Nat} (hown : s.vm.findClass own = some m.cls) (hK : Kt G s) (hW : Wh G x y H) (hl : Cond.fieldLink own index "RobotCell" "scheduler" "LRobotCell$Scheduler;" ∈ wsG) (hdg : decode cc pc = .ok (.getfield index, 3)) (kk : W p l e R s m args below meth c H locs cells slots Q (F0 m (pc + 3) ls (.ref (gA G 17 0 0) :: rest))) : W p l e R s m args below meth c H locs cells slots Q (F0 m pc ls (.ref (gA G 14 0 0) :: rest)) := by
  obtain ⟨q0, h0, h2⟩ := wl_get (G := G) (x := x) (y := y) (id_14)
  rw [(mm_c (by decide))] at h2
  exact va_get (ci := 13) (C := RX11) (T := TX11) (N := 7) (v := .ref (gA G 17 0 0)) hx hb htg inG_wsX110 hown hK.1 hW.1 q0 h2 rfl 5 (by decide) (htg _ hl) (fun _ h9 => h9) rfl hdg kk
theorem gf_14_6 (hx : p.tables.exec = Jvm.exec) (hb : c.code = cc) (htg : ∀ w ∈ wsG, w.before args s = true) {own : String} {index : Nat} (hown : s.vm.findClass own = some m.cls) (hK : Kt G s) (hW : Wh G x y H) (hl : Cond.fieldLink own index "RobotCell" "commandText" "LRobotCell$CommandText;" ∈ wsG) (hdg : decode cc pc = .ok (.getfield index, 3)) (kk : W p l e R s m args below meth c H locs cells slots Q (F0 m (pc + 3) ls (.ref (gA G 22 0 0) :: rest))) : W p l e R s m args below meth c H locs cells slots Q (F0 m pc ls (.ref (gA G 14 0 0) :: rest)) := by
  obtain ⟨q0, h0, h2⟩ := wl_get (G := G) (x := x) (y := y) (id_14)
  rw [(mm_c (by decide))] at h2
  exact va_get (ci := 13) (C := RX11) (T := TX11) (N := 7) (v := .ref (gA G 22 0 0)) hx hb htg inG_wsX110 hown hK.1 hW.1 q0 h2 rfl 6 (by decide) (htg _ hl) (fun _ h9 => h9) rfl hdg kk
theorem rc_14 (hK : Kt G s) (hW : Wh G x y H) : ∃ cell : Cell, H[(gA G 14 0 0)]? = some cell ∧ cell.vm.isStatics = false ∧ s.vm.findClass RX11 = some cell.cls := by
  obtain ⟨q0, h0, h2⟩ := wl_get (G := G) (x := x) (y := y) (id_14)
  exact va_recv hK.1 hW.1 (ci := 13) (q := (RX11, TX11, 7)) rfl h2
theorem gf_15_0 (hx : p.tables.exec = Jvm.exec) (hb : c.code = cc) (htg : ∀ w ∈ wsG, w.before args s = true) {own : String} {index : Nat} (hown : s.vm.findClass own = some m.cls) (hK : Kt G s) (hW : Wh G x y H) (hl : Cond.fieldLink own index "RobotCell$History" "count" "I" ∈ wsG) (hdg : decode cc pc = .ok (.getfield index, 3)) (kk : W p l e R s m args below meth c H locs cells slots Q (F0 m (pc + 3) ls (.int (x 15 0 0 0) :: rest))) : W p l e R s m args below meth c H locs cells slots Q (F0 m pc ls (.ref (gA G 15 0 0) :: rest)) := by
  obtain ⟨q0, h0, h2⟩ := wl_get (G := G) (x := x) (y := y) (id_15)
  rw [(mm_c (by decide))] at h2
  exact va_get (ci := 6) (C := RX4) (T := TX4) (N := 4) (v := .int (x 15 0 0 0)) hx hb htg inG_wsX40 hown hK.1 hW.1 q0 h2 rfl 0 (by decide) (htg _ hl) (fun _ h9 => h9) rfl hdg kk
theorem pf_15_0 (hx : p.tables.exec = Jvm.exec) (hb : c.code = cc) (htg : ∀ w ∈ wsG, w.before args s = true) {own : String} {index : Nat} (hown : s.vm.findClass own = some m.cls) (hK : Kt G s) (hW : Wh G x y H) (hS : va_S (gF G) H0 H locs) (hl : Cond.fieldLink own index "RobotCell$History" "count" "I" ∈ wsG) {v : Int32} (hdg : decode cc pc = .ok (.putfield index, 3)) (kk : ∀ (H1 : Heap) (locs1 : List Loc), Wh G (up4 x 15 0 0 0 v) y H1 → va_S (gF G) H0 H1 locs1 → W p l e R s m args below meth c H1 locs1 cells slots Q (F0 m (pc + 3) ls rest)) : W p l e R s m args below meth c H locs cells slots Q (F0 m pc ls (.int v :: .ref (gA G 15 0 0) :: rest)) := by
  obtain ⟨q0, h0, h2⟩ := wl_get (G := G) (x := x) (y := y) (id_15)
  rw [(mm_c (by decide))] at h2
  have hs := wl_set_c (G := G) (x := x) (y := y) (s := 0) (v := v) (by decide) hW.2 h0
  refine va_put (ci := 6) (C := RX4) (T := TX4) (N := 4) (v := .int v) (ty := .int) hx hb htg inG_wsX40 tyX4 tyX4_ok nmX4 hown hK.1 hW.1 hW.2 hS q0 h2 rfl 0 (by decide) (htg _ hl) (fun _ h9 => h9) rfl (by decide +kernel) rfl rfl (Nat.le_of_ble_eq_true rfl) hdg (fun H1 locs1 hP hD hS => kk H1 locs1 ⟨?_, ?_⟩ hS)
  · rw [← hs]; exact hP
  · rw [← hs]; exact hD
theorem gf_15_1 (hx : p.tables.exec = Jvm.exec) (hb : c.code = cc) (htg : ∀ w ∈ wsG, w.before args s = true) {own : String} {index : Nat} (hown : s.vm.findClass own = some m.cls) (hK : Kt G s) (hW : Wh G x y H) (hl : Cond.fieldLink own index "RobotCell$History" "first" "I" ∈ wsG) (hdg : decode cc pc = .ok (.getfield index, 3)) (kk : W p l e R s m args below meth c H locs cells slots Q (F0 m (pc + 3) ls (.int (x 15 0 0 1) :: rest))) : W p l e R s m args below meth c H locs cells slots Q (F0 m pc ls (.ref (gA G 15 0 0) :: rest)) := by
  obtain ⟨q0, h0, h2⟩ := wl_get (G := G) (x := x) (y := y) (id_15)
  rw [(mm_c (by decide))] at h2
  exact va_get (ci := 6) (C := RX4) (T := TX4) (N := 4) (v := .int (x 15 0 0 1)) hx hb htg inG_wsX40 hown hK.1 hW.1 q0 h2 rfl 1 (by decide) (htg _ hl) (fun _ h9 => h9) rfl hdg kk
theorem pf_15_1 (hx : p.tables.exec = Jvm.exec) (hb : c.code = cc) (htg : ∀ w ∈ wsG, w.before args s = true) {own : String} {index : Nat} (hown : s.vm.findClass own = some m.cls) (hK : Kt G s) (hW : Wh G x y H) (hS : va_S (gF G) H0 H locs) (hl : Cond.fieldLink own index "RobotCell$History" "first" "I" ∈ wsG) {v : Int32} (hdg : decode cc pc = .ok (.putfield index, 3)) (kk : ∀ (H1 : Heap) (locs1 : List Loc), Wh G (up4 x 15 0 0 1 v) y H1 → va_S (gF G) H0 H1 locs1 → W p l e R s m args below meth c H1 locs1 cells slots Q (F0 m (pc + 3) ls rest)) : W p l e R s m args below meth c H locs cells slots Q (F0 m pc ls (.int v :: .ref (gA G 15 0 0) :: rest)) := by
  obtain ⟨q0, h0, h2⟩ := wl_get (G := G) (x := x) (y := y) (id_15)
  rw [(mm_c (by decide))] at h2
  have hs := wl_set_c (G := G) (x := x) (y := y) (s := 1) (v := v) (by decide) hW.2 h0
  refine va_put (ci := 6) (C := RX4) (T := TX4) (N := 4) (v := .int v) (ty := .int) hx hb htg inG_wsX40 tyX4 tyX4_ok nmX4 hown hK.1 hW.1 hW.2 hS q0 h2 rfl 1 (by decide) (htg _ hl) (fun _ h9 => h9) rfl (by decide +kernel) rfl rfl (Nat.le_of_ble_eq_true rfl) hdg (fun H1 locs1 hP hD hS => kk H1 locs1 ⟨?_, ?_⟩ hS)
  · rw [← hs]; exact hP
  · rw [← hs]; exact hD
theorem gf_15_2 (hx : p.tables.exec = Jvm.exec) (hb : c.code = cc) (htg : ∀ w ∈ wsG, w.before args s = true) {own : String} {index : Nat} (hown : s.vm.findClass own = some m.cls) (hK : Kt G s) (hW : Wh G x y H) (hl : Cond.fieldLink own index "RobotCell$History" "cells" "[LRobotCell$Cell;" ∈ wsG) (hdg : decode cc pc = .ok (.getfield index, 3)) (kk : W p l e R s m args below meth c H locs cells slots Q (F0 m (pc + 3) ls (.ref (gA G 16 0 0) :: rest))) : W p l e R s m args below meth c H locs cells slots Q (F0 m pc ls (.ref (gA G 15 0 0) :: rest)) := by
  obtain ⟨q0, h0, h2⟩ := wl_get (G := G) (x := x) (y := y) (id_15)
  rw [(mm_c (by decide))] at h2
  exact va_get (ci := 6) (C := RX4) (T := TX4) (N := 4) (v := .ref (gA G 16 0 0)) hx hb htg inG_wsX40 hown hK.1 hW.1 q0 h2 rfl 2 (by decide) (htg _ hl) (fun _ h9 => h9) rfl hdg kk
theorem gf_15_3 (hx : p.tables.exec = Jvm.exec) (hb : c.code = cc) (htg : ∀ w ∈ wsG, w.before args s = true) {own : String} {index : Nat} (hown : s.vm.findClass own = some m.cls) (hK : Kt G s) (hW : Wh G x y H) (hl : Cond.fieldLink own index "RobotCell$History" "noCell" "LRobotCell$Cell;" ∈ wsG) (hdg : decode cc pc = .ok (.getfield index, 3)) (kk : W p l e R s m args below meth c H locs cells slots Q (F0 m (pc + 3) ls (.ref (gA G 2 3 0) :: rest))) : W p l e R s m args below meth c H locs cells slots Q (F0 m pc ls (.ref (gA G 15 0 0) :: rest)) := by
  obtain ⟨q0, h0, h2⟩ := wl_get (G := G) (x := x) (y := y) (id_15)
  rw [(mm_c (by decide))] at h2
  exact va_get (ci := 6) (C := RX4) (T := TX4) (N := 4) (v := .ref (gA G 2 3 0)) hx hb htg inG_wsX40 hown hK.1 hW.1 q0 h2 rfl 3 (by decide) (htg _ hl) (fun _ h9 => h9) rfl hdg kk
theorem rc_15 (hK : Kt G s) (hW : Wh G x y H) : ∃ cell : Cell, H[(gA G 15 0 0)]? = some cell ∧ cell.vm.isStatics = false ∧ s.vm.findClass RX4 = some cell.cls := by
  obtain ⟨q0, h0, h2⟩ := wl_get (G := G) (x := x) (y := y) (id_15)
  exact va_recv hK.1 hW.1 (ci := 6) (q := (RX4, TX4, 4)) rfl h2
theorem al_16 (hx : p.tables.exec = Jvm.exec) (hb : c.code = cc) (hK : Kt G s) (hW : Wh G x y H) {i : Int32} (hin : vp_in i 6) (hdg : decode cc pc = .ok (.aaload, 1)) (kk : W p l e R s m args below meth c H locs cells slots Q (F0 m (pc + 1) ls (.ref (gA G 2 (4 + i.toNatClampNeg) 0) :: rest))) : W p l e R s m args below meth c H locs cells slots Q (F0 m pc ls (.int i :: .ref (gA G 16 0 0) :: rest)) := by
  obtain ⟨q0, h0, h2⟩ := wl_get (G := G) (x := x) (y := y) (id_16)
  exact va_aldq hx hb hK.1 hW.1 q0 5 h2 rfl hin hdg kk
theorem an_16 (hx : p.tables.exec = Jvm.exec) (hb : c.code = cc) (hK : Kt G s) (hW : Wh G x y H) (hdg : decode cc pc = .ok (.arraylength, 1)) (kk : W p l e R s m args below meth c H locs cells slots Q (F0 m (pc + 1) ls (.int 6 :: rest))) : W p l e R s m args below meth c H locs cells slots Q (F0 m pc ls (.ref (gA G 16 0 0) :: rest)) := by
  obtain ⟨q0, h0, h2⟩ := wl_get (G := G) (x := x) (y := y) (id_16)
  exact va_alen hx hb hK.1 hW.1 q0 5 h2 rfl rfl hdg kk
theorem gf_17_0 (hx : p.tables.exec = Jvm.exec) (hb : c.code = cc) (htg : ∀ w ∈ wsG, w.before args s = true) {own : String} {index : Nat} (hown : s.vm.findClass own = some m.cls) (hK : Kt G s) (hW : Wh G x y H) (hl : Cond.fieldLink own index "RobotCell$Scheduler" "judge" "LRobotCell$Judge;" ∈ wsG) (hdg : decode cc pc = .ok (.getfield index, 3)) (kk : W p l e R s m args below meth c H locs cells slots Q (F0 m (pc + 3) ls (.ref (gA G 19 0 0) :: rest))) : W p l e R s m args below meth c H locs cells slots Q (F0 m pc ls (.ref (gA G 17 0 0) :: rest)) := by
  obtain ⟨q0, h0, h2⟩ := wl_get (G := G) (x := x) (y := y) (id_17)
  rw [(mm_c (by decide))] at h2
  exact va_get (ci := 10) (C := RX8) (T := TX8) (N := 2) (v := .ref (gA G 19 0 0)) hx hb htg inG_wsX80 hown hK.1 hW.1 q0 h2 rfl 0 (by decide) (htg _ hl) (fun _ h9 => h9) rfl hdg kk
theorem gf_17_1 (hx : p.tables.exec = Jvm.exec) (hb : c.code = cc) (htg : ∀ w ∈ wsG, w.before args s = true) {own : String} {index : Nat} (hown : s.vm.findClass own = some m.cls) (hK : Kt G s) (hW : Wh G x y H) (hl : Cond.fieldLink own index "RobotCell$Scheduler" "order" "[I" ∈ wsG) (hdg : decode cc pc = .ok (.getfield index, 3)) (kk : W p l e R s m args below meth c H locs cells slots Q (F0 m (pc + 3) ls (.ref (gA G 18 0 0) :: rest))) : W p l e R s m args below meth c H locs cells slots Q (F0 m pc ls (.ref (gA G 17 0 0) :: rest)) := by
  obtain ⟨q0, h0, h2⟩ := wl_get (G := G) (x := x) (y := y) (id_17)
  rw [(mm_c (by decide))] at h2
  exact va_get (ci := 10) (C := RX8) (T := TX8) (N := 2) (v := .ref (gA G 18 0 0)) hx hb htg inG_wsX80 hown hK.1 hW.1 q0 h2 rfl 1 (by decide) (htg _ hl) (fun _ h9 => h9) rfl hdg kk
theorem rc_17 (hK : Kt G s) (hW : Wh G x y H) : ∃ cell : Cell, H[(gA G 17 0 0)]? = some cell ∧ cell.vm.isStatics = false ∧ s.vm.findClass RX8 = some cell.cls := by
  obtain ⟨q0, h0, h2⟩ := wl_get (G := G) (x := x) (y := y) (id_17)
  exact va_recv hK.1 hW.1 (ci := 10) (q := (RX8, TX8, 2)) rfl h2
theorem al_18 (hx : p.tables.exec = Jvm.exec) (hb : c.code = cc) (hK : Kt G s) (hW : Wh G x y H) {i : Int32} (hin : vp_in i 3) (hdg : decode cc pc = .ok (.iaload, 1)) (kk : W p l e R s m args below meth c H locs cells slots Q (F0 m (pc + 1) ls (.int (x 18 0 0 i.toNatClampNeg) :: rest))) : W p l e R s m args below meth c H locs cells slots Q (F0 m pc ls (.int i :: .ref (gA G 18 0 0) :: rest)) := by
  obtain ⟨q0, h0, h2⟩ := wl_get (G := G) (x := x) (y := y) (id_18)
  rw [(mm_c (by decide))] at h2
  exact va_iald hx hb hK.1 hW.1 q0 0 h2 rfl hin hdg kk
theorem as_18 (hx : p.tables.exec = Jvm.exec) (hb : c.code = cc) (hK : Kt G s) (hW : Wh G x y H) (hS : va_S (gF G) H0 H locs) {i v : Int32} (hin : vp_in i 3) (hdg : decode cc pc = .ok (.iastore, 1)) (kk : ∀ (H1 : Heap) (locs1 : List Loc), Wh G (up4 x 18 0 0 i.toNatClampNeg v) y H1 → va_S (gF G) H0 H1 locs1 → W p l e R s m args below meth c H1 locs1 cells slots Q (F0 m (pc + 1) ls rest)) : W p l e R s m args below meth c H locs cells slots Q (F0 m pc ls (.int v :: .int i :: .ref (gA G 18 0 0) :: rest)) := by
  obtain ⟨q0, h0, h2⟩ := wl_get (G := G) (x := x) (y := y) (id_18)
  rw [(mm_c (by decide))] at h2
  have hs := wl_set_c (G := G) (x := x) (y := y) (s := i.toNatClampNeg) (v := v) (by decide) hW.2 h0
  refine va_iast hx hb hK.1 hW.1 hW.2 hS q0 0 h2 rfl hin hdg (fun H1 locs1 hP hD hS => kk H1 locs1 ⟨?_, ?_⟩ hS)
  · rw [← hs]; exact hP
  · rw [← hs]; exact hD
theorem an_18 (hx : p.tables.exec = Jvm.exec) (hb : c.code = cc) (hK : Kt G s) (hW : Wh G x y H) (hdg : decode cc pc = .ok (.arraylength, 1)) (kk : W p l e R s m args below meth c H locs cells slots Q (F0 m (pc + 1) ls (.int 3 :: rest))) : W p l e R s m args below meth c H locs cells slots Q (F0 m pc ls (.ref (gA G 18 0 0) :: rest)) := by
  obtain ⟨q0, h0, h2⟩ := wl_get (G := G) (x := x) (y := y) (id_18)
  exact va_alen hx hb hK.1 hW.1 q0 0 h2 rfl rfl hdg kk
theorem gf_19_0 (hx : p.tables.exec = Jvm.exec) (hb : c.code = cc) (htg : ∀ w ∈ wsG, w.before args s = true) {own : String} {index : Nat} (hown : s.vm.findClass own = some m.cls) (hK : Kt G s) (hW : Wh G x y H) (hl : Cond.fieldLink own index "RobotCell$Judge" "detail" "I" ∈ wsG) (hdg : decode cc pc = .ok (.getfield index, 3)) (kk : W p l e R s m args below meth c H locs cells slots Q (F0 m (pc + 3) ls (.int (x 19 0 0 0) :: rest))) : W p l e R s m args below meth c H locs cells slots Q (F0 m pc ls (.ref (gA G 19 0 0) :: rest)) := by
  obtain ⟨q0, h0, h2⟩ := wl_get (G := G) (x := x) (y := y) (id_19)
  rw [(mm_c (by decide))] at h2
  exact va_get (ci := 8) (C := RX6) (T := TX6) (N := 4) (v := .int (x 19 0 0 0)) hx hb htg inG_wsX60 hown hK.1 hW.1 q0 h2 rfl 0 (by decide) (htg _ hl) (fun _ h9 => h9) rfl hdg kk
theorem pf_19_0 (hx : p.tables.exec = Jvm.exec) (hb : c.code = cc) (htg : ∀ w ∈ wsG, w.before args s = true) {own : String} {index : Nat} (hown : s.vm.findClass own = some m.cls) (hK : Kt G s) (hW : Wh G x y H) (hS : va_S (gF G) H0 H locs) (hl : Cond.fieldLink own index "RobotCell$Judge" "detail" "I" ∈ wsG) {v : Int32} (hdg : decode cc pc = .ok (.putfield index, 3)) (kk : ∀ (H1 : Heap) (locs1 : List Loc), Wh G (up4 x 19 0 0 0 v) y H1 → va_S (gF G) H0 H1 locs1 → W p l e R s m args below meth c H1 locs1 cells slots Q (F0 m (pc + 3) ls rest)) : W p l e R s m args below meth c H locs cells slots Q (F0 m pc ls (.int v :: .ref (gA G 19 0 0) :: rest)) := by
  obtain ⟨q0, h0, h2⟩ := wl_get (G := G) (x := x) (y := y) (id_19)
  rw [(mm_c (by decide))] at h2
  have hs := wl_set_c (G := G) (x := x) (y := y) (s := 0) (v := v) (by decide) hW.2 h0
  refine va_put (ci := 8) (C := RX6) (T := TX6) (N := 4) (v := .int v) (ty := .int) hx hb htg inG_wsX60 tyX6 tyX6_ok nmX6 hown hK.1 hW.1 hW.2 hS q0 h2 rfl 0 (by decide) (htg _ hl) (fun _ h9 => h9) rfl (by decide +kernel) rfl rfl (Nat.le_of_ble_eq_true rfl) hdg (fun H1 locs1 hP hD hS => kk H1 locs1 ⟨?_, ?_⟩ hS)
  · rw [← hs]; exact hP
  · rw [← hs]; exact hD
theorem gf_19_1 (hx : p.tables.exec = Jvm.exec) (hb : c.code = cc) (htg : ∀ w ∈ wsG, w.before args s = true) {own : String} {index : Nat} (hown : s.vm.findClass own = some m.cls) (hK : Kt G s) (hW : Wh G x y H) (hl : Cond.fieldLink own index "RobotCell$Judge" "active" "I" ∈ wsG) (hdg : decode cc pc = .ok (.getfield index, 3)) (kk : W p l e R s m args below meth c H locs cells slots Q (F0 m (pc + 3) ls (.int (x 19 0 0 1) :: rest))) : W p l e R s m args below meth c H locs cells slots Q (F0 m pc ls (.ref (gA G 19 0 0) :: rest)) := by
  obtain ⟨q0, h0, h2⟩ := wl_get (G := G) (x := x) (y := y) (id_19)
  rw [(mm_c (by decide))] at h2
  exact va_get (ci := 8) (C := RX6) (T := TX6) (N := 4) (v := .int (x 19 0 0 1)) hx hb htg inG_wsX60 hown hK.1 hW.1 q0 h2 rfl 1 (by decide) (htg _ hl) (fun _ h9 => h9) rfl hdg kk
theorem pf_19_1 (hx : p.tables.exec = Jvm.exec) (hb : c.code = cc) (htg : ∀ w ∈ wsG, w.before args s = true) {own : String} {index : Nat} (hown : s.vm.findClass own = some m.cls) (hK : Kt G s) (hW : Wh G x y H) (hS : va_S (gF G) H0 H locs) (hl : Cond.fieldLink own index "RobotCell$Judge" "active" "I" ∈ wsG) {v : Int32} (hdg : decode cc pc = .ok (.putfield index, 3)) (kk : ∀ (H1 : Heap) (locs1 : List Loc), Wh G (up4 x 19 0 0 1 v) y H1 → va_S (gF G) H0 H1 locs1 → W p l e R s m args below meth c H1 locs1 cells slots Q (F0 m (pc + 3) ls rest)) : W p l e R s m args below meth c H locs cells slots Q (F0 m pc ls (.int v :: .ref (gA G 19 0 0) :: rest)) := by
  obtain ⟨q0, h0, h2⟩ := wl_get (G := G) (x := x) (y := y) (id_19)
  rw [(mm_c (by decide))] at h2
  have hs := wl_set_c (G := G) (x := x) (y := y) (s := 1) (v := v) (by decide) hW.2 h0
  refine va_put (ci := 8) (C := RX6) (T := TX6) (N := 4) (v := .int v) (ty := .int) hx hb htg inG_wsX60 tyX6 tyX6_ok nmX6 hown hK.1 hW.1 hW.2 hS q0 h2 rfl 1 (by decide) (htg _ hl) (fun _ h9 => h9) rfl (by decide +kernel) rfl rfl (Nat.le_of_ble_eq_true rfl) hdg (fun H1 locs1 hP hD hS => kk H1 locs1 ⟨?_, ?_⟩ hS)
  · rw [← hs]; exact hP
  · rw [← hs]; exact hD
theorem gf_19_2 (hx : p.tables.exec = Jvm.exec) (hb : c.code = cc) (htg : ∀ w ∈ wsG, w.before args s = true) {own : String} {index : Nat} (hown : s.vm.findClass own = some m.cls) (hK : Kt G s) (hW : Wh G x y H) (hl : Cond.fieldLink own index "RobotCell$Judge" "held" "[I" ∈ wsG) (hdg : decode cc pc = .ok (.getfield index, 3)) (kk : W p l e R s m args below meth c H locs cells slots Q (F0 m (pc + 3) ls (.ref (gA G 20 0 0) :: rest))) : W p l e R s m args below meth c H locs cells slots Q (F0 m pc ls (.ref (gA G 19 0 0) :: rest)) := by
  obtain ⟨q0, h0, h2⟩ := wl_get (G := G) (x := x) (y := y) (id_19)
  rw [(mm_c (by decide))] at h2
  exact va_get (ci := 8) (C := RX6) (T := TX6) (N := 4) (v := .ref (gA G 20 0 0)) hx hb htg inG_wsX60 hown hK.1 hW.1 q0 h2 rfl 2 (by decide) (htg _ hl) (fun _ h9 => h9) rfl hdg kk
theorem gf_19_3 (hx : p.tables.exec = Jvm.exec) (hb : c.code = cc) (htg : ∀ w ∈ wsG, w.before args s = true) {own : String} {index : Nat} (hown : s.vm.findClass own = some m.cls) (hK : Kt G s) (hW : Wh G x y H) (hl : Cond.fieldLink own index "RobotCell$Judge" "inTheWay" "[I" ∈ wsG) (hdg : decode cc pc = .ok (.getfield index, 3)) (kk : W p l e R s m args below meth c H locs cells slots Q (F0 m (pc + 3) ls (.ref (gA G 21 0 0) :: rest))) : W p l e R s m args below meth c H locs cells slots Q (F0 m pc ls (.ref (gA G 19 0 0) :: rest)) := by
  obtain ⟨q0, h0, h2⟩ := wl_get (G := G) (x := x) (y := y) (id_19)
  rw [(mm_c (by decide))] at h2
  exact va_get (ci := 8) (C := RX6) (T := TX6) (N := 4) (v := .ref (gA G 21 0 0)) hx hb htg inG_wsX60 hown hK.1 hW.1 q0 h2 rfl 3 (by decide) (htg _ hl) (fun _ h9 => h9) rfl hdg kk
theorem rc_19 (hK : Kt G s) (hW : Wh G x y H) : ∃ cell : Cell, H[(gA G 19 0 0)]? = some cell ∧ cell.vm.isStatics = false ∧ s.vm.findClass RX6 = some cell.cls := by
  obtain ⟨q0, h0, h2⟩ := wl_get (G := G) (x := x) (y := y) (id_19)
  exact va_recv hK.1 hW.1 (ci := 8) (q := (RX6, TX6, 4)) rfl h2
theorem al_20 (hx : p.tables.exec = Jvm.exec) (hb : c.code = cc) (hK : Kt G s) (hW : Wh G x y H) {i : Int32} (hin : vp_in i 3) (hdg : decode cc pc = .ok (.iaload, 1)) (kk : W p l e R s m args below meth c H locs cells slots Q (F0 m (pc + 1) ls (.int (x 20 0 0 i.toNatClampNeg) :: rest))) : W p l e R s m args below meth c H locs cells slots Q (F0 m pc ls (.int i :: .ref (gA G 20 0 0) :: rest)) := by
  obtain ⟨q0, h0, h2⟩ := wl_get (G := G) (x := x) (y := y) (id_20)
  rw [(mm_c (by decide))] at h2
  exact va_iald hx hb hK.1 hW.1 q0 0 h2 rfl hin hdg kk
theorem as_20 (hx : p.tables.exec = Jvm.exec) (hb : c.code = cc) (hK : Kt G s) (hW : Wh G x y H) (hS : va_S (gF G) H0 H locs) {i v : Int32} (hin : vp_in i 3) (hdg : decode cc pc = .ok (.iastore, 1)) (kk : ∀ (H1 : Heap) (locs1 : List Loc), Wh G (up4 x 20 0 0 i.toNatClampNeg v) y H1 → va_S (gF G) H0 H1 locs1 → W p l e R s m args below meth c H1 locs1 cells slots Q (F0 m (pc + 1) ls rest)) : W p l e R s m args below meth c H locs cells slots Q (F0 m pc ls (.int v :: .int i :: .ref (gA G 20 0 0) :: rest)) := by
  obtain ⟨q0, h0, h2⟩ := wl_get (G := G) (x := x) (y := y) (id_20)
  rw [(mm_c (by decide))] at h2
  have hs := wl_set_c (G := G) (x := x) (y := y) (s := i.toNatClampNeg) (v := v) (by decide) hW.2 h0
  refine va_iast hx hb hK.1 hW.1 hW.2 hS q0 0 h2 rfl hin hdg (fun H1 locs1 hP hD hS => kk H1 locs1 ⟨?_, ?_⟩ hS)
  · rw [← hs]; exact hP
  · rw [← hs]; exact hD
theorem an_20 (hx : p.tables.exec = Jvm.exec) (hb : c.code = cc) (hK : Kt G s) (hW : Wh G x y H) (hdg : decode cc pc = .ok (.arraylength, 1)) (kk : W p l e R s m args below meth c H locs cells slots Q (F0 m (pc + 1) ls (.int 3 :: rest))) : W p l e R s m args below meth c H locs cells slots Q (F0 m pc ls (.ref (gA G 20 0 0) :: rest)) := by
  obtain ⟨q0, h0, h2⟩ := wl_get (G := G) (x := x) (y := y) (id_20)
  exact va_alen hx hb hK.1 hW.1 q0 0 h2 rfl rfl hdg kk
theorem al_21 (hx : p.tables.exec = Jvm.exec) (hb : c.code = cc) (hK : Kt G s) (hW : Wh G x y H) {i : Int32} (hin : vp_in i 3) (hdg : decode cc pc = .ok (.iaload, 1)) (kk : W p l e R s m args below meth c H locs cells slots Q (F0 m (pc + 1) ls (.int (x 21 0 0 i.toNatClampNeg) :: rest))) : W p l e R s m args below meth c H locs cells slots Q (F0 m pc ls (.int i :: .ref (gA G 21 0 0) :: rest)) := by
  obtain ⟨q0, h0, h2⟩ := wl_get (G := G) (x := x) (y := y) (id_21)
  rw [(mm_c (by decide))] at h2
  exact va_iald hx hb hK.1 hW.1 q0 0 h2 rfl hin hdg kk
theorem as_21 (hx : p.tables.exec = Jvm.exec) (hb : c.code = cc) (hK : Kt G s) (hW : Wh G x y H) (hS : va_S (gF G) H0 H locs) {i v : Int32} (hin : vp_in i 3) (hdg : decode cc pc = .ok (.iastore, 1)) (kk : ∀ (H1 : Heap) (locs1 : List Loc), Wh G (up4 x 21 0 0 i.toNatClampNeg v) y H1 → va_S (gF G) H0 H1 locs1 → W p l e R s m args below meth c H1 locs1 cells slots Q (F0 m (pc + 1) ls rest)) : W p l e R s m args below meth c H locs cells slots Q (F0 m pc ls (.int v :: .int i :: .ref (gA G 21 0 0) :: rest)) := by
  obtain ⟨q0, h0, h2⟩ := wl_get (G := G) (x := x) (y := y) (id_21)
  rw [(mm_c (by decide))] at h2
  have hs := wl_set_c (G := G) (x := x) (y := y) (s := i.toNatClampNeg) (v := v) (by decide) hW.2 h0
  refine va_iast hx hb hK.1 hW.1 hW.2 hS q0 0 h2 rfl hin hdg (fun H1 locs1 hP hD hS => kk H1 locs1 ⟨?_, ?_⟩ hS)
  · rw [← hs]; exact hP
  · rw [← hs]; exact hD
theorem an_21 (hx : p.tables.exec = Jvm.exec) (hb : c.code = cc) (hK : Kt G s) (hW : Wh G x y H) (hdg : decode cc pc = .ok (.arraylength, 1)) (kk : W p l e R s m args below meth c H locs cells slots Q (F0 m (pc + 1) ls (.int 3 :: rest))) : W p l e R s m args below meth c H locs cells slots Q (F0 m pc ls (.ref (gA G 21 0 0) :: rest)) := by
  obtain ⟨q0, h0, h2⟩ := wl_get (G := G) (x := x) (y := y) (id_21)
  exact va_alen hx hb hK.1 hW.1 q0 0 h2 rfl rfl hdg kk
theorem gf_22_0 (hx : p.tables.exec = Jvm.exec) (hb : c.code = cc) (htg : ∀ w ∈ wsG, w.before args s = true) {own : String} {index : Nat} (hown : s.vm.findClass own = some m.cls) (hK : Kt G s) (hW : Wh G x y H) (hl : Cond.fieldLink own index "RobotCell$CommandText" "count" "I" ∈ wsG) (hdg : decode cc pc = .ok (.getfield index, 3)) (kk : W p l e R s m args below meth c H locs cells slots Q (F0 m (pc + 3) ls (.int (x 22 0 0 0) :: rest))) : W p l e R s m args below meth c H locs cells slots Q (F0 m pc ls (.ref (gA G 22 0 0) :: rest)) := by
  obtain ⟨q0, h0, h2⟩ := wl_get (G := G) (x := x) (y := y) (id_22)
  rw [(mm_c (by decide))] at h2
  exact va_get (ci := 5) (C := RX3) (T := TX3) (N := 7) (v := .int (x 22 0 0 0)) hx hb htg inG_wsX30 hown hK.1 hW.1 q0 h2 rfl 0 (by decide) (htg _ hl) (fun _ h9 => h9) rfl hdg kk
theorem pf_22_0 (hx : p.tables.exec = Jvm.exec) (hb : c.code = cc) (htg : ∀ w ∈ wsG, w.before args s = true) {own : String} {index : Nat} (hown : s.vm.findClass own = some m.cls) (hK : Kt G s) (hW : Wh G x y H) (hS : va_S (gF G) H0 H locs) (hl : Cond.fieldLink own index "RobotCell$CommandText" "count" "I" ∈ wsG) {v : Int32} (hdg : decode cc pc = .ok (.putfield index, 3)) (kk : ∀ (H1 : Heap) (locs1 : List Loc), Wh G (up4 x 22 0 0 0 v) y H1 → va_S (gF G) H0 H1 locs1 → W p l e R s m args below meth c H1 locs1 cells slots Q (F0 m (pc + 3) ls rest)) : W p l e R s m args below meth c H locs cells slots Q (F0 m pc ls (.int v :: .ref (gA G 22 0 0) :: rest)) := by
  obtain ⟨q0, h0, h2⟩ := wl_get (G := G) (x := x) (y := y) (id_22)
  rw [(mm_c (by decide))] at h2
  have hs := wl_set_c (G := G) (x := x) (y := y) (s := 0) (v := v) (by decide) hW.2 h0
  refine va_put (ci := 5) (C := RX3) (T := TX3) (N := 7) (v := .int v) (ty := .int) hx hb htg inG_wsX30 tyX3 tyX3_ok nmX3 hown hK.1 hW.1 hW.2 hS q0 h2 rfl 0 (by decide) (htg _ hl) (fun _ h9 => h9) rfl (by decide +kernel) rfl rfl (Nat.le_of_ble_eq_true rfl) hdg (fun H1 locs1 hP hD hS => kk H1 locs1 ⟨?_, ?_⟩ hS)
  · rw [← hs]; exact hP
  · rw [← hs]; exact hD
theorem gf_22_1 (hx : p.tables.exec = Jvm.exec) (hb : c.code = cc) (htg : ∀ w ∈ wsG, w.before args s = true) {own : String} {index : Nat} (hown : s.vm.findClass own = some m.cls) (hK : Kt G s) (hW : Wh G x y H) (hl : Cond.fieldLink own index "RobotCell$CommandText" "letters" "[C" ∈ wsG) (hdg : decode cc pc = .ok (.getfield index, 3)) (kk : W p l e R s m args below meth c H locs cells slots Q (F0 m (pc + 3) ls (.ref (gA G 23 0 0) :: rest))) : W p l e R s m args below meth c H locs cells slots Q (F0 m pc ls (.ref (gA G 22 0 0) :: rest)) := by
  obtain ⟨q0, h0, h2⟩ := wl_get (G := G) (x := x) (y := y) (id_22)
  rw [(mm_c (by decide))] at h2
  exact va_get (ci := 5) (C := RX3) (T := TX3) (N := 7) (v := .ref (gA G 23 0 0)) hx hb htg inG_wsX30 hown hK.1 hW.1 q0 h2 rfl 1 (by decide) (htg _ hl) (fun _ h9 => h9) rfl hdg kk
theorem gf_22_2 (hx : p.tables.exec = Jvm.exec) (hb : c.code = cc) (htg : ∀ w ∈ wsG, w.before args s = true) {own : String} {index : Nat} (hown : s.vm.findClass own = some m.cls) (hK : Kt G s) (hW : Wh G x y H) (hl : Cond.fieldLink own index "RobotCell$CommandText" "length" "I" ∈ wsG) (hdg : decode cc pc = .ok (.getfield index, 3)) (kk : W p l e R s m args below meth c H locs cells slots Q (F0 m (pc + 3) ls (.int (x 22 0 0 2) :: rest))) : W p l e R s m args below meth c H locs cells slots Q (F0 m pc ls (.ref (gA G 22 0 0) :: rest)) := by
  obtain ⟨q0, h0, h2⟩ := wl_get (G := G) (x := x) (y := y) (id_22)
  rw [(mm_c (by decide))] at h2
  exact va_get (ci := 5) (C := RX3) (T := TX3) (N := 7) (v := .int (x 22 0 0 2)) hx hb htg inG_wsX30 hown hK.1 hW.1 q0 h2 rfl 2 (by decide) (htg _ hl) (fun _ h9 => h9) rfl hdg kk
theorem pf_22_2 (hx : p.tables.exec = Jvm.exec) (hb : c.code = cc) (htg : ∀ w ∈ wsG, w.before args s = true) {own : String} {index : Nat} (hown : s.vm.findClass own = some m.cls) (hK : Kt G s) (hW : Wh G x y H) (hS : va_S (gF G) H0 H locs) (hl : Cond.fieldLink own index "RobotCell$CommandText" "length" "I" ∈ wsG) {v : Int32} (hdg : decode cc pc = .ok (.putfield index, 3)) (kk : ∀ (H1 : Heap) (locs1 : List Loc), Wh G (up4 x 22 0 0 2 v) y H1 → va_S (gF G) H0 H1 locs1 → W p l e R s m args below meth c H1 locs1 cells slots Q (F0 m (pc + 3) ls rest)) : W p l e R s m args below meth c H locs cells slots Q (F0 m pc ls (.int v :: .ref (gA G 22 0 0) :: rest)) := by
  obtain ⟨q0, h0, h2⟩ := wl_get (G := G) (x := x) (y := y) (id_22)
  rw [(mm_c (by decide))] at h2
  have hs := wl_set_c (G := G) (x := x) (y := y) (s := 2) (v := v) (by decide) hW.2 h0
  refine va_put (ci := 5) (C := RX3) (T := TX3) (N := 7) (v := .int v) (ty := .int) hx hb htg inG_wsX30 tyX3 tyX3_ok nmX3 hown hK.1 hW.1 hW.2 hS q0 h2 rfl 2 (by decide) (htg _ hl) (fun _ h9 => h9) rfl (by decide +kernel) rfl rfl (Nat.le_of_ble_eq_true rfl) hdg (fun H1 locs1 hP hD hS => kk H1 locs1 ⟨?_, ?_⟩ hS)
  · rw [← hs]; exact hP
  · rw [← hs]; exact hD
theorem gf_22_3 (hx : p.tables.exec = Jvm.exec) (hb : c.code = cc) (htg : ∀ w ∈ wsG, w.before args s = true) {own : String} {index : Nat} (hown : s.vm.findClass own = some m.cls) (hK : Kt G s) (hW : Wh G x y H) (hl : Cond.fieldLink own index "RobotCell$CommandText" "at" "I" ∈ wsG) (hdg : decode cc pc = .ok (.getfield index, 3)) (kk : W p l e R s m args below meth c H locs cells slots Q (F0 m (pc + 3) ls (.int (x 22 0 0 3) :: rest))) : W p l e R s m args below meth c H locs cells slots Q (F0 m pc ls (.ref (gA G 22 0 0) :: rest)) := by
  obtain ⟨q0, h0, h2⟩ := wl_get (G := G) (x := x) (y := y) (id_22)
  rw [(mm_c (by decide))] at h2
  exact va_get (ci := 5) (C := RX3) (T := TX3) (N := 7) (v := .int (x 22 0 0 3)) hx hb htg inG_wsX30 hown hK.1 hW.1 q0 h2 rfl 3 (by decide) (htg _ hl) (fun _ h9 => h9) rfl hdg kk
theorem pf_22_3 (hx : p.tables.exec = Jvm.exec) (hb : c.code = cc) (htg : ∀ w ∈ wsG, w.before args s = true) {own : String} {index : Nat} (hown : s.vm.findClass own = some m.cls) (hK : Kt G s) (hW : Wh G x y H) (hS : va_S (gF G) H0 H locs) (hl : Cond.fieldLink own index "RobotCell$CommandText" "at" "I" ∈ wsG) {v : Int32} (hdg : decode cc pc = .ok (.putfield index, 3)) (kk : ∀ (H1 : Heap) (locs1 : List Loc), Wh G (up4 x 22 0 0 3 v) y H1 → va_S (gF G) H0 H1 locs1 → W p l e R s m args below meth c H1 locs1 cells slots Q (F0 m (pc + 3) ls rest)) : W p l e R s m args below meth c H locs cells slots Q (F0 m pc ls (.int v :: .ref (gA G 22 0 0) :: rest)) := by
  obtain ⟨q0, h0, h2⟩ := wl_get (G := G) (x := x) (y := y) (id_22)
  rw [(mm_c (by decide))] at h2
  have hs := wl_set_c (G := G) (x := x) (y := y) (s := 3) (v := v) (by decide) hW.2 h0
  refine va_put (ci := 5) (C := RX3) (T := TX3) (N := 7) (v := .int v) (ty := .int) hx hb htg inG_wsX30 tyX3 tyX3_ok nmX3 hown hK.1 hW.1 hW.2 hS q0 h2 rfl 3 (by decide) (htg _ hl) (fun _ h9 => h9) rfl (by decide +kernel) rfl rfl (Nat.le_of_ble_eq_true rfl) hdg (fun H1 locs1 hP hD hS => kk H1 locs1 ⟨?_, ?_⟩ hS)
  · rw [← hs]; exact hP
  · rw [← hs]; exact hD
theorem gf_22_4 (hx : p.tables.exec = Jvm.exec) (hb : c.code = cc) (htg : ∀ w ∈ wsG, w.before args s = true) {own : String} {index : Nat} (hown : s.vm.findClass own = some m.cls) (hK : Kt G s) (hW : Wh G x y H) (hl : Cond.fieldLink own index "RobotCell$CommandText" "digit" "I" ∈ wsG) (hdg : decode cc pc = .ok (.getfield index, 3)) (kk : W p l e R s m args below meth c H locs cells slots Q (F0 m (pc + 3) ls (.int (x 22 0 0 4) :: rest))) : W p l e R s m args below meth c H locs cells slots Q (F0 m pc ls (.ref (gA G 22 0 0) :: rest)) := by
  obtain ⟨q0, h0, h2⟩ := wl_get (G := G) (x := x) (y := y) (id_22)
  rw [(mm_c (by decide))] at h2
  exact va_get (ci := 5) (C := RX3) (T := TX3) (N := 7) (v := .int (x 22 0 0 4)) hx hb htg inG_wsX30 hown hK.1 hW.1 q0 h2 rfl 4 (by decide) (htg _ hl) (fun _ h9 => h9) rfl hdg kk
theorem pf_22_4 (hx : p.tables.exec = Jvm.exec) (hb : c.code = cc) (htg : ∀ w ∈ wsG, w.before args s = true) {own : String} {index : Nat} (hown : s.vm.findClass own = some m.cls) (hK : Kt G s) (hW : Wh G x y H) (hS : va_S (gF G) H0 H locs) (hl : Cond.fieldLink own index "RobotCell$CommandText" "digit" "I" ∈ wsG) {v : Int32} (hdg : decode cc pc = .ok (.putfield index, 3)) (kk : ∀ (H1 : Heap) (locs1 : List Loc), Wh G (up4 x 22 0 0 4 v) y H1 → va_S (gF G) H0 H1 locs1 → W p l e R s m args below meth c H1 locs1 cells slots Q (F0 m (pc + 3) ls rest)) : W p l e R s m args below meth c H locs cells slots Q (F0 m pc ls (.int v :: .ref (gA G 22 0 0) :: rest)) := by
  obtain ⟨q0, h0, h2⟩ := wl_get (G := G) (x := x) (y := y) (id_22)
  rw [(mm_c (by decide))] at h2
  have hs := wl_set_c (G := G) (x := x) (y := y) (s := 4) (v := v) (by decide) hW.2 h0
  refine va_put (ci := 5) (C := RX3) (T := TX3) (N := 7) (v := .int v) (ty := .int) hx hb htg inG_wsX30 tyX3 tyX3_ok nmX3 hown hK.1 hW.1 hW.2 hS q0 h2 rfl 4 (by decide) (htg _ hl) (fun _ h9 => h9) rfl (by decide +kernel) rfl rfl (Nat.le_of_ble_eq_true rfl) hdg (fun H1 locs1 hP hD hS => kk H1 locs1 ⟨?_, ?_⟩ hS)
  · rw [← hs]; exact hP
  · rw [← hs]; exact hD
theorem gf_22_5 (hx : p.tables.exec = Jvm.exec) (hb : c.code = cc) (htg : ∀ w ∈ wsG, w.before args s = true) {own : String} {index : Nat} (hown : s.vm.findClass own = some m.cls) (hK : Kt G s) (hW : Wh G x y H) (hl : Cond.fieldLink own index "RobotCell$CommandText" "commands" "[LRobotCell$Command;" ∈ wsG) (hdg : decode cc pc = .ok (.getfield index, 3)) (kk : W p l e R s m args below meth c H locs cells slots Q (F0 m (pc + 3) ls (.ref (gA G 24 0 0) :: rest))) : W p l e R s m args below meth c H locs cells slots Q (F0 m pc ls (.ref (gA G 22 0 0) :: rest)) := by
  obtain ⟨q0, h0, h2⟩ := wl_get (G := G) (x := x) (y := y) (id_22)
  rw [(mm_c (by decide))] at h2
  exact va_get (ci := 5) (C := RX3) (T := TX3) (N := 7) (v := .ref (gA G 24 0 0)) hx hb htg inG_wsX30 hown hK.1 hW.1 q0 h2 rfl 5 (by decide) (htg _ hl) (fun _ h9 => h9) rfl hdg kk
theorem gf_22_6 (hx : p.tables.exec = Jvm.exec) (hb : c.code = cc) (htg : ∀ w ∈ wsG, w.before args s = true) {own : String} {index : Nat} (hown : s.vm.findClass own = some m.cls) (hK : Kt G s) (hW : Wh G x y H) (hl : Cond.fieldLink own index "RobotCell$CommandText" "noCommand" "LRobotCell$Command;" ∈ wsG) (hdg : decode cc pc = .ok (.getfield index, 3)) (kk : W p l e R s m args below meth c H locs cells slots Q (F0 m (pc + 3) ls (.ref (gA G 25 0 27) :: rest))) : W p l e R s m args below meth c H locs cells slots Q (F0 m pc ls (.ref (gA G 22 0 0) :: rest)) := by
  obtain ⟨q0, h0, h2⟩ := wl_get (G := G) (x := x) (y := y) (id_22)
  rw [(mm_c (by decide))] at h2
  exact va_get (ci := 5) (C := RX3) (T := TX3) (N := 7) (v := .ref (gA G 25 0 27)) hx hb htg inG_wsX30 hown hK.1 hW.1 q0 h2 rfl 6 (by decide) (htg _ hl) (fun _ h9 => h9) rfl hdg kk
theorem rc_22 (hK : Kt G s) (hW : Wh G x y H) : ∃ cell : Cell, H[(gA G 22 0 0)]? = some cell ∧ cell.vm.isStatics = false ∧ s.vm.findClass RX3 = some cell.cls := by
  obtain ⟨q0, h0, h2⟩ := wl_get (G := G) (x := x) (y := y) (id_22)
  exact va_recv hK.1 hW.1 (ci := 5) (q := (RX3, TX3, 7)) rfl h2
theorem al_23 (hx : p.tables.exec = Jvm.exec) (hb : c.code = cc) (hK : Kt G s) (hW : Wh G x y H) {i : Int32} (hin : vp_in i 80) (hdg : decode cc pc = .ok (.caload, 1)) (kk : W p l e R s m args below meth c H locs cells slots Q (F0 m (pc + 1) ls (.int (x 23 0 0 i.toNatClampNeg) :: rest))) : W p l e R s m args below meth c H locs cells slots Q (F0 m pc ls (.int i :: .ref (gA G 23 0 0) :: rest)) := by
  obtain ⟨q0, h0, h2⟩ := wl_get (G := G) (x := x) (y := y) (id_23)
  rw [(mm_c (by decide))] at h2
  exact va_cald hx hb hK.1 hW.1 q0 1 h2 rfl hin hdg kk
theorem as_23 (hx : p.tables.exec = Jvm.exec) (hb : c.code = cc) (hK : Kt G s) (hW : Wh G x y H) (hS : va_S (gF G) H0 H locs) {i v : Int32} (hin : vp_in i 80) (hdg : decode cc pc = .ok (.castore, 1)) (kk : ∀ (H1 : Heap) (locs1 : List Loc), Wh G (up4 x 23 0 0 i.toNatClampNeg (vp_nar .char v)) y H1 → va_S (gF G) H0 H1 locs1 → W p l e R s m args below meth c H1 locs1 cells slots Q (F0 m (pc + 1) ls rest)) : W p l e R s m args below meth c H locs cells slots Q (F0 m pc ls (.int v :: .int i :: .ref (gA G 23 0 0) :: rest)) := by
  obtain ⟨q0, h0, h2⟩ := wl_get (G := G) (x := x) (y := y) (id_23)
  rw [(mm_c (by decide))] at h2
  have hs := wl_set_c (G := G) (x := x) (y := y) (s := i.toNatClampNeg) (v := (vp_nar .char v)) (by decide) hW.2 h0
  refine va_cast hx hb hK.1 hW.1 hW.2 hS q0 1 h2 rfl hin hdg (fun H1 locs1 hP hD hS => kk H1 locs1 ⟨?_, ?_⟩ hS)
  · rw [← hs]; exact hP
  · rw [← hs]; exact hD
theorem an_23 (hx : p.tables.exec = Jvm.exec) (hb : c.code = cc) (hK : Kt G s) (hW : Wh G x y H) (hdg : decode cc pc = .ok (.arraylength, 1)) (kk : W p l e R s m args below meth c H locs cells slots Q (F0 m (pc + 1) ls (.int 80 :: rest))) : W p l e R s m args below meth c H locs cells slots Q (F0 m pc ls (.ref (gA G 23 0 0) :: rest)) := by
  obtain ⟨q0, h0, h2⟩ := wl_get (G := G) (x := x) (y := y) (id_23)
  exact va_alen hx hb hK.1 hW.1 q0 1 h2 rfl rfl hdg kk
theorem al_24 (hx : p.tables.exec = Jvm.exec) (hb : c.code = cc) (hK : Kt G s) (hW : Wh G x y H) {i : Int32} (hin : vp_in i 27) (hdg : decode cc pc = .ok (.aaload, 1)) (kk : W p l e R s m args below meth c H locs cells slots Q (F0 m (pc + 1) ls (.ref (gA G 25 0 i.toNatClampNeg) :: rest))) : W p l e R s m args below meth c H locs cells slots Q (F0 m pc ls (.int i :: .ref (gA G 24 0 0) :: rest)) := by
  obtain ⟨q0, h0, h2⟩ := wl_get (G := G) (x := x) (y := y) (id_24)
  exact va_aldq hx hb hK.1 hW.1 q0 6 h2 rfl hin hdg kk
theorem an_24 (hx : p.tables.exec = Jvm.exec) (hb : c.code = cc) (hK : Kt G s) (hW : Wh G x y H) (hdg : decode cc pc = .ok (.arraylength, 1)) (kk : W p l e R s m args below meth c H locs cells slots Q (F0 m (pc + 1) ls (.int 27 :: rest))) : W p l e R s m args below meth c H locs cells slots Q (F0 m pc ls (.ref (gA G 24 0 0) :: rest)) := by
  obtain ⟨q0, h0, h2⟩ := wl_get (G := G) (x := x) (y := y) (id_24)
  exact va_alen hx hb hK.1 hW.1 q0 6 h2 rfl rfl hdg kk
theorem gf_25_0 (hx : p.tables.exec = Jvm.exec) (hb : c.code = cc) (htg : ∀ w ∈ wsG, w.before args s = true) {own : String} {index : Nat} (hown : s.vm.findClass own = some m.cls) (hK : Kt G s) (hW : Wh G x y H) (a : Fin 28) (hl : Cond.fieldLink own index "RobotCell$Command" "kind" "I" ∈ wsG) (hdg : decode cc pc = .ok (.getfield index, 3)) (kk : W p l e R s m args below meth c H locs cells slots Q (F0 m (pc + 3) ls (.int (x 25 0 ↑a 0) :: rest))) : W p l e R s m args below meth c H locs cells slots Q (F0 m pc ls (.ref (gA G 25 0 ↑a) :: rest)) := by
  obtain ⟨q0, h0, h2⟩ := wl_get (G := G) (x := x) (y := y) (id_25 a)
  rw [(mm_c (by decide))] at h2
  exact va_get (ci := 4) (C := RX2) (T := TX2) (N := 10) (v := .int (x 25 0 ↑a 0)) hx hb htg inG_wsX20 hown hK.1 hW.1 q0 h2 rfl 0 (by decide) (htg _ hl) (fun _ h9 => h9) rfl hdg kk
theorem pf_25_0 (hx : p.tables.exec = Jvm.exec) (hb : c.code = cc) (htg : ∀ w ∈ wsG, w.before args s = true) {own : String} {index : Nat} (hown : s.vm.findClass own = some m.cls) (hK : Kt G s) (hW : Wh G x y H) (hS : va_S (gF G) H0 H locs) (a : Fin 28) (hl : Cond.fieldLink own index "RobotCell$Command" "kind" "I" ∈ wsG) {v : Int32} (hdg : decode cc pc = .ok (.putfield index, 3)) (kk : ∀ (H1 : Heap) (locs1 : List Loc), Wh G (up4 x 25 0 ↑a 0 v) y H1 → va_S (gF G) H0 H1 locs1 → W p l e R s m args below meth c H1 locs1 cells slots Q (F0 m (pc + 3) ls rest)) : W p l e R s m args below meth c H locs cells slots Q (F0 m pc ls (.int v :: .ref (gA G 25 0 ↑a) :: rest)) := by
  obtain ⟨q0, h0, h2⟩ := wl_get (G := G) (x := x) (y := y) (id_25 a)
  rw [(mm_c (by decide))] at h2
  have hs := wl_set_c (G := G) (x := x) (y := y) (s := 0) (v := v) (by decide) hW.2 h0
  refine va_put (ci := 4) (C := RX2) (T := TX2) (N := 10) (v := .int v) (ty := .int) hx hb htg inG_wsX20 tyX2 tyX2_ok nmX2 hown hK.1 hW.1 hW.2 hS q0 h2 rfl 0 (by decide) (htg _ hl) (fun _ h9 => h9) rfl (by decide +kernel) rfl rfl (Nat.le_of_ble_eq_true rfl) hdg (fun H1 locs1 hP hD hS => kk H1 locs1 ⟨?_, ?_⟩ hS)
  · rw [← hs]; exact hP
  · rw [← hs]; exact hD
theorem gf_25_1 (hx : p.tables.exec = Jvm.exec) (hb : c.code = cc) (htg : ∀ w ∈ wsG, w.before args s = true) {own : String} {index : Nat} (hown : s.vm.findClass own = some m.cls) (hK : Kt G s) (hW : Wh G x y H) (a : Fin 28) (hl : Cond.fieldLink own index "RobotCell$Command" "arm" "I" ∈ wsG) (hdg : decode cc pc = .ok (.getfield index, 3)) (kk : W p l e R s m args below meth c H locs cells slots Q (F0 m (pc + 3) ls (.int (x 25 0 ↑a 1) :: rest))) : W p l e R s m args below meth c H locs cells slots Q (F0 m pc ls (.ref (gA G 25 0 ↑a) :: rest)) := by
  obtain ⟨q0, h0, h2⟩ := wl_get (G := G) (x := x) (y := y) (id_25 a)
  rw [(mm_c (by decide))] at h2
  exact va_get (ci := 4) (C := RX2) (T := TX2) (N := 10) (v := .int (x 25 0 ↑a 1)) hx hb htg inG_wsX20 hown hK.1 hW.1 q0 h2 rfl 1 (by decide) (htg _ hl) (fun _ h9 => h9) rfl hdg kk
theorem pf_25_1 (hx : p.tables.exec = Jvm.exec) (hb : c.code = cc) (htg : ∀ w ∈ wsG, w.before args s = true) {own : String} {index : Nat} (hown : s.vm.findClass own = some m.cls) (hK : Kt G s) (hW : Wh G x y H) (hS : va_S (gF G) H0 H locs) (a : Fin 28) (hl : Cond.fieldLink own index "RobotCell$Command" "arm" "I" ∈ wsG) {v : Int32} (hdg : decode cc pc = .ok (.putfield index, 3)) (kk : ∀ (H1 : Heap) (locs1 : List Loc), Wh G (up4 x 25 0 ↑a 1 v) y H1 → va_S (gF G) H0 H1 locs1 → W p l e R s m args below meth c H1 locs1 cells slots Q (F0 m (pc + 3) ls rest)) : W p l e R s m args below meth c H locs cells slots Q (F0 m pc ls (.int v :: .ref (gA G 25 0 ↑a) :: rest)) := by
  obtain ⟨q0, h0, h2⟩ := wl_get (G := G) (x := x) (y := y) (id_25 a)
  rw [(mm_c (by decide))] at h2
  have hs := wl_set_c (G := G) (x := x) (y := y) (s := 1) (v := v) (by decide) hW.2 h0
  refine va_put (ci := 4) (C := RX2) (T := TX2) (N := 10) (v := .int v) (ty := .int) hx hb htg inG_wsX20 tyX2 tyX2_ok nmX2 hown hK.1 hW.1 hW.2 hS q0 h2 rfl 1 (by decide) (htg _ hl) (fun _ h9 => h9) rfl (by decide +kernel) rfl rfl (Nat.le_of_ble_eq_true rfl) hdg (fun H1 locs1 hP hD hS => kk H1 locs1 ⟨?_, ?_⟩ hS)
  · rw [← hs]; exact hP
  · rw [← hs]; exact hD
theorem gf_25_2 (hx : p.tables.exec = Jvm.exec) (hb : c.code = cc) (htg : ∀ w ∈ wsG, w.before args s = true) {own : String} {index : Nat} (hown : s.vm.findClass own = some m.cls) (hK : Kt G s) (hW : Wh G x y H) (a : Fin 28) (hl : Cond.fieldLink own index "RobotCell$Command" "path" "I" ∈ wsG) (hdg : decode cc pc = .ok (.getfield index, 3)) (kk : W p l e R s m args below meth c H locs cells slots Q (F0 m (pc + 3) ls (.int (x 25 0 ↑a 2) :: rest))) : W p l e R s m args below meth c H locs cells slots Q (F0 m pc ls (.ref (gA G 25 0 ↑a) :: rest)) := by
  obtain ⟨q0, h0, h2⟩ := wl_get (G := G) (x := x) (y := y) (id_25 a)
  rw [(mm_c (by decide))] at h2
  exact va_get (ci := 4) (C := RX2) (T := TX2) (N := 10) (v := .int (x 25 0 ↑a 2)) hx hb htg inG_wsX20 hown hK.1 hW.1 q0 h2 rfl 2 (by decide) (htg _ hl) (fun _ h9 => h9) rfl hdg kk
theorem pf_25_2 (hx : p.tables.exec = Jvm.exec) (hb : c.code = cc) (htg : ∀ w ∈ wsG, w.before args s = true) {own : String} {index : Nat} (hown : s.vm.findClass own = some m.cls) (hK : Kt G s) (hW : Wh G x y H) (hS : va_S (gF G) H0 H locs) (a : Fin 28) (hl : Cond.fieldLink own index "RobotCell$Command" "path" "I" ∈ wsG) {v : Int32} (hdg : decode cc pc = .ok (.putfield index, 3)) (kk : ∀ (H1 : Heap) (locs1 : List Loc), Wh G (up4 x 25 0 ↑a 2 v) y H1 → va_S (gF G) H0 H1 locs1 → W p l e R s m args below meth c H1 locs1 cells slots Q (F0 m (pc + 3) ls rest)) : W p l e R s m args below meth c H locs cells slots Q (F0 m pc ls (.int v :: .ref (gA G 25 0 ↑a) :: rest)) := by
  obtain ⟨q0, h0, h2⟩ := wl_get (G := G) (x := x) (y := y) (id_25 a)
  rw [(mm_c (by decide))] at h2
  have hs := wl_set_c (G := G) (x := x) (y := y) (s := 2) (v := v) (by decide) hW.2 h0
  refine va_put (ci := 4) (C := RX2) (T := TX2) (N := 10) (v := .int v) (ty := .int) hx hb htg inG_wsX20 tyX2 tyX2_ok nmX2 hown hK.1 hW.1 hW.2 hS q0 h2 rfl 2 (by decide) (htg _ hl) (fun _ h9 => h9) rfl (by decide +kernel) rfl rfl (Nat.le_of_ble_eq_true rfl) hdg (fun H1 locs1 hP hD hS => kk H1 locs1 ⟨?_, ?_⟩ hS)
  · rw [← hs]; exact hP
  · rw [← hs]; exact hD
theorem gf_25_3 (hx : p.tables.exec = Jvm.exec) (hb : c.code = cc) (htg : ∀ w ∈ wsG, w.before args s = true) {own : String} {index : Nat} (hown : s.vm.findClass own = some m.cls) (hK : Kt G s) (hW : Wh G x y H) (a : Fin 28) (hl : Cond.fieldLink own index "RobotCell$Command" "work" "I" ∈ wsG) (hdg : decode cc pc = .ok (.getfield index, 3)) (kk : W p l e R s m args below meth c H locs cells slots Q (F0 m (pc + 3) ls (.int (x 25 0 ↑a 3) :: rest))) : W p l e R s m args below meth c H locs cells slots Q (F0 m pc ls (.ref (gA G 25 0 ↑a) :: rest)) := by
  obtain ⟨q0, h0, h2⟩ := wl_get (G := G) (x := x) (y := y) (id_25 a)
  rw [(mm_c (by decide))] at h2
  exact va_get (ci := 4) (C := RX2) (T := TX2) (N := 10) (v := .int (x 25 0 ↑a 3)) hx hb htg inG_wsX20 hown hK.1 hW.1 q0 h2 rfl 3 (by decide) (htg _ hl) (fun _ h9 => h9) rfl hdg kk
theorem pf_25_3 (hx : p.tables.exec = Jvm.exec) (hb : c.code = cc) (htg : ∀ w ∈ wsG, w.before args s = true) {own : String} {index : Nat} (hown : s.vm.findClass own = some m.cls) (hK : Kt G s) (hW : Wh G x y H) (hS : va_S (gF G) H0 H locs) (a : Fin 28) (hl : Cond.fieldLink own index "RobotCell$Command" "work" "I" ∈ wsG) {v : Int32} (hdg : decode cc pc = .ok (.putfield index, 3)) (kk : ∀ (H1 : Heap) (locs1 : List Loc), Wh G (up4 x 25 0 ↑a 3 v) y H1 → va_S (gF G) H0 H1 locs1 → W p l e R s m args below meth c H1 locs1 cells slots Q (F0 m (pc + 3) ls rest)) : W p l e R s m args below meth c H locs cells slots Q (F0 m pc ls (.int v :: .ref (gA G 25 0 ↑a) :: rest)) := by
  obtain ⟨q0, h0, h2⟩ := wl_get (G := G) (x := x) (y := y) (id_25 a)
  rw [(mm_c (by decide))] at h2
  have hs := wl_set_c (G := G) (x := x) (y := y) (s := 3) (v := v) (by decide) hW.2 h0
  refine va_put (ci := 4) (C := RX2) (T := TX2) (N := 10) (v := .int v) (ty := .int) hx hb htg inG_wsX20 tyX2 tyX2_ok nmX2 hown hK.1 hW.1 hW.2 hS q0 h2 rfl 3 (by decide) (htg _ hl) (fun _ h9 => h9) rfl (by decide +kernel) rfl rfl (Nat.le_of_ble_eq_true rfl) hdg (fun H1 locs1 hP hD hS => kk H1 locs1 ⟨?_, ?_⟩ hS)
  · rw [← hs]; exact hP
  · rw [← hs]; exact hD
theorem gf_25_4 (hx : p.tables.exec = Jvm.exec) (hb : c.code = cc) (htg : ∀ w ∈ wsG, w.before args s = true) {own : String} {index : Nat} (hown : s.vm.findClass own = some m.cls) (hK : Kt G s) (hW : Wh G x y H) (a : Fin 28) (hl : Cond.fieldLink own index "RobotCell$Command" "weight" "I" ∈ wsG) (hdg : decode cc pc = .ok (.getfield index, 3)) (kk : W p l e R s m args below meth c H locs cells slots Q (F0 m (pc + 3) ls (.int (x 25 0 ↑a 4) :: rest))) : W p l e R s m args below meth c H locs cells slots Q (F0 m pc ls (.ref (gA G 25 0 ↑a) :: rest)) := by
  obtain ⟨q0, h0, h2⟩ := wl_get (G := G) (x := x) (y := y) (id_25 a)
  rw [(mm_c (by decide))] at h2
  exact va_get (ci := 4) (C := RX2) (T := TX2) (N := 10) (v := .int (x 25 0 ↑a 4)) hx hb htg inG_wsX20 hown hK.1 hW.1 q0 h2 rfl 4 (by decide) (htg _ hl) (fun _ h9 => h9) rfl hdg kk
theorem pf_25_4 (hx : p.tables.exec = Jvm.exec) (hb : c.code = cc) (htg : ∀ w ∈ wsG, w.before args s = true) {own : String} {index : Nat} (hown : s.vm.findClass own = some m.cls) (hK : Kt G s) (hW : Wh G x y H) (hS : va_S (gF G) H0 H locs) (a : Fin 28) (hl : Cond.fieldLink own index "RobotCell$Command" "weight" "I" ∈ wsG) {v : Int32} (hdg : decode cc pc = .ok (.putfield index, 3)) (kk : ∀ (H1 : Heap) (locs1 : List Loc), Wh G (up4 x 25 0 ↑a 4 v) y H1 → va_S (gF G) H0 H1 locs1 → W p l e R s m args below meth c H1 locs1 cells slots Q (F0 m (pc + 3) ls rest)) : W p l e R s m args below meth c H locs cells slots Q (F0 m pc ls (.int v :: .ref (gA G 25 0 ↑a) :: rest)) := by
  obtain ⟨q0, h0, h2⟩ := wl_get (G := G) (x := x) (y := y) (id_25 a)
  rw [(mm_c (by decide))] at h2
  have hs := wl_set_c (G := G) (x := x) (y := y) (s := 4) (v := v) (by decide) hW.2 h0
  refine va_put (ci := 4) (C := RX2) (T := TX2) (N := 10) (v := .int v) (ty := .int) hx hb htg inG_wsX20 tyX2 tyX2_ok nmX2 hown hK.1 hW.1 hW.2 hS q0 h2 rfl 4 (by decide) (htg _ hl) (fun _ h9 => h9) rfl (by decide +kernel) rfl rfl (Nat.le_of_ble_eq_true rfl) hdg (fun H1 locs1 hP hD hS => kk H1 locs1 ⟨?_, ?_⟩ hS)
  · rw [← hs]; exact hP
  · rw [← hs]; exact hD
theorem gf_25_5 (hx : p.tables.exec = Jvm.exec) (hb : c.code = cc) (htg : ∀ w ∈ wsG, w.before args s = true) {own : String} {index : Nat} (hown : s.vm.findClass own = some m.cls) (hK : Kt G s) (hW : Wh G x y H) (a : Fin 28) (hl : Cond.fieldLink own index "RobotCell$Command" "source" "I" ∈ wsG) (hdg : decode cc pc = .ok (.getfield index, 3)) (kk : W p l e R s m args below meth c H locs cells slots Q (F0 m (pc + 3) ls (.int (x 25 0 ↑a 5) :: rest))) : W p l e R s m args below meth c H locs cells slots Q (F0 m pc ls (.ref (gA G 25 0 ↑a) :: rest)) := by
  obtain ⟨q0, h0, h2⟩ := wl_get (G := G) (x := x) (y := y) (id_25 a)
  rw [(mm_c (by decide))] at h2
  exact va_get (ci := 4) (C := RX2) (T := TX2) (N := 10) (v := .int (x 25 0 ↑a 5)) hx hb htg inG_wsX20 hown hK.1 hW.1 q0 h2 rfl 5 (by decide) (htg _ hl) (fun _ h9 => h9) rfl hdg kk
theorem pf_25_5 (hx : p.tables.exec = Jvm.exec) (hb : c.code = cc) (htg : ∀ w ∈ wsG, w.before args s = true) {own : String} {index : Nat} (hown : s.vm.findClass own = some m.cls) (hK : Kt G s) (hW : Wh G x y H) (hS : va_S (gF G) H0 H locs) (a : Fin 28) (hl : Cond.fieldLink own index "RobotCell$Command" "source" "I" ∈ wsG) {v : Int32} (hdg : decode cc pc = .ok (.putfield index, 3)) (kk : ∀ (H1 : Heap) (locs1 : List Loc), Wh G (up4 x 25 0 ↑a 5 v) y H1 → va_S (gF G) H0 H1 locs1 → W p l e R s m args below meth c H1 locs1 cells slots Q (F0 m (pc + 3) ls rest)) : W p l e R s m args below meth c H locs cells slots Q (F0 m pc ls (.int v :: .ref (gA G 25 0 ↑a) :: rest)) := by
  obtain ⟨q0, h0, h2⟩ := wl_get (G := G) (x := x) (y := y) (id_25 a)
  rw [(mm_c (by decide))] at h2
  have hs := wl_set_c (G := G) (x := x) (y := y) (s := 5) (v := v) (by decide) hW.2 h0
  refine va_put (ci := 4) (C := RX2) (T := TX2) (N := 10) (v := .int v) (ty := .int) hx hb htg inG_wsX20 tyX2 tyX2_ok nmX2 hown hK.1 hW.1 hW.2 hS q0 h2 rfl 5 (by decide) (htg _ hl) (fun _ h9 => h9) rfl (by decide +kernel) rfl rfl (Nat.le_of_ble_eq_true rfl) hdg (fun H1 locs1 hP hD hS => kk H1 locs1 ⟨?_, ?_⟩ hS)
  · rw [← hs]; exact hP
  · rw [← hs]; exact hD
theorem gf_25_6 (hx : p.tables.exec = Jvm.exec) (hb : c.code = cc) (htg : ∀ w ∈ wsG, w.before args s = true) {own : String} {index : Nat} (hown : s.vm.findClass own = some m.cls) (hK : Kt G s) (hW : Wh G x y H) (a : Fin 28) (hl : Cond.fieldLink own index "RobotCell$Command" "target" "I" ∈ wsG) (hdg : decode cc pc = .ok (.getfield index, 3)) (kk : W p l e R s m args below meth c H locs cells slots Q (F0 m (pc + 3) ls (.int (x 25 0 ↑a 6) :: rest))) : W p l e R s m args below meth c H locs cells slots Q (F0 m pc ls (.ref (gA G 25 0 ↑a) :: rest)) := by
  obtain ⟨q0, h0, h2⟩ := wl_get (G := G) (x := x) (y := y) (id_25 a)
  rw [(mm_c (by decide))] at h2
  exact va_get (ci := 4) (C := RX2) (T := TX2) (N := 10) (v := .int (x 25 0 ↑a 6)) hx hb htg inG_wsX20 hown hK.1 hW.1 q0 h2 rfl 6 (by decide) (htg _ hl) (fun _ h9 => h9) rfl hdg kk
theorem pf_25_6 (hx : p.tables.exec = Jvm.exec) (hb : c.code = cc) (htg : ∀ w ∈ wsG, w.before args s = true) {own : String} {index : Nat} (hown : s.vm.findClass own = some m.cls) (hK : Kt G s) (hW : Wh G x y H) (hS : va_S (gF G) H0 H locs) (a : Fin 28) (hl : Cond.fieldLink own index "RobotCell$Command" "target" "I" ∈ wsG) {v : Int32} (hdg : decode cc pc = .ok (.putfield index, 3)) (kk : ∀ (H1 : Heap) (locs1 : List Loc), Wh G (up4 x 25 0 ↑a 6 v) y H1 → va_S (gF G) H0 H1 locs1 → W p l e R s m args below meth c H1 locs1 cells slots Q (F0 m (pc + 3) ls rest)) : W p l e R s m args below meth c H locs cells slots Q (F0 m pc ls (.int v :: .ref (gA G 25 0 ↑a) :: rest)) := by
  obtain ⟨q0, h0, h2⟩ := wl_get (G := G) (x := x) (y := y) (id_25 a)
  rw [(mm_c (by decide))] at h2
  have hs := wl_set_c (G := G) (x := x) (y := y) (s := 6) (v := v) (by decide) hW.2 h0
  refine va_put (ci := 4) (C := RX2) (T := TX2) (N := 10) (v := .int v) (ty := .int) hx hb htg inG_wsX20 tyX2 tyX2_ok nmX2 hown hK.1 hW.1 hW.2 hS q0 h2 rfl 6 (by decide) (htg _ hl) (fun _ h9 => h9) rfl (by decide +kernel) rfl rfl (Nat.le_of_ble_eq_true rfl) hdg (fun H1 locs1 hP hD hS => kk H1 locs1 ⟨?_, ?_⟩ hS)
  · rw [← hs]; exact hP
  · rw [← hs]; exact hD
theorem gf_25_7 (hx : p.tables.exec = Jvm.exec) (hb : c.code = cc) (htg : ∀ w ∈ wsG, w.before args s = true) {own : String} {index : Nat} (hown : s.vm.findClass own = some m.cls) (hK : Kt G s) (hW : Wh G x y H) (a : Fin 28) (hl : Cond.fieldLink own index "RobotCell$Command" "ticks" "I" ∈ wsG) (hdg : decode cc pc = .ok (.getfield index, 3)) (kk : W p l e R s m args below meth c H locs cells slots Q (F0 m (pc + 3) ls (.int (x 25 0 ↑a 7) :: rest))) : W p l e R s m args below meth c H locs cells slots Q (F0 m pc ls (.ref (gA G 25 0 ↑a) :: rest)) := by
  obtain ⟨q0, h0, h2⟩ := wl_get (G := G) (x := x) (y := y) (id_25 a)
  rw [(mm_c (by decide))] at h2
  exact va_get (ci := 4) (C := RX2) (T := TX2) (N := 10) (v := .int (x 25 0 ↑a 7)) hx hb htg inG_wsX20 hown hK.1 hW.1 q0 h2 rfl 7 (by decide) (htg _ hl) (fun _ h9 => h9) rfl hdg kk
theorem pf_25_7 (hx : p.tables.exec = Jvm.exec) (hb : c.code = cc) (htg : ∀ w ∈ wsG, w.before args s = true) {own : String} {index : Nat} (hown : s.vm.findClass own = some m.cls) (hK : Kt G s) (hW : Wh G x y H) (hS : va_S (gF G) H0 H locs) (a : Fin 28) (hl : Cond.fieldLink own index "RobotCell$Command" "ticks" "I" ∈ wsG) {v : Int32} (hdg : decode cc pc = .ok (.putfield index, 3)) (kk : ∀ (H1 : Heap) (locs1 : List Loc), Wh G (up4 x 25 0 ↑a 7 v) y H1 → va_S (gF G) H0 H1 locs1 → W p l e R s m args below meth c H1 locs1 cells slots Q (F0 m (pc + 3) ls rest)) : W p l e R s m args below meth c H locs cells slots Q (F0 m pc ls (.int v :: .ref (gA G 25 0 ↑a) :: rest)) := by
  obtain ⟨q0, h0, h2⟩ := wl_get (G := G) (x := x) (y := y) (id_25 a)
  rw [(mm_c (by decide))] at h2
  have hs := wl_set_c (G := G) (x := x) (y := y) (s := 7) (v := v) (by decide) hW.2 h0
  refine va_put (ci := 4) (C := RX2) (T := TX2) (N := 10) (v := .int v) (ty := .int) hx hb htg inG_wsX20 tyX2 tyX2_ok nmX2 hown hK.1 hW.1 hW.2 hS q0 h2 rfl 7 (by decide) (htg _ hl) (fun _ h9 => h9) rfl (by decide +kernel) rfl rfl (Nat.le_of_ble_eq_true rfl) hdg (fun H1 locs1 hP hD hS => kk H1 locs1 ⟨?_, ?_⟩ hS)
  · rw [← hs]; exact hP
  · rw [← hs]; exact hD
theorem gf_25_8 (hx : p.tables.exec = Jvm.exec) (hb : c.code = cc) (htg : ∀ w ∈ wsG, w.before args s = true) {own : String} {index : Nat} (hown : s.vm.findClass own = some m.cls) (hK : Kt G s) (hW : Wh G x y H) (a : Fin 28) (hl : Cond.fieldLink own index "RobotCell$Command" "one" "I" ∈ wsG) (hdg : decode cc pc = .ok (.getfield index, 3)) (kk : W p l e R s m args below meth c H locs cells slots Q (F0 m (pc + 3) ls (.int (x 25 0 ↑a 8) :: rest))) : W p l e R s m args below meth c H locs cells slots Q (F0 m pc ls (.ref (gA G 25 0 ↑a) :: rest)) := by
  obtain ⟨q0, h0, h2⟩ := wl_get (G := G) (x := x) (y := y) (id_25 a)
  rw [(mm_c (by decide))] at h2
  exact va_get (ci := 4) (C := RX2) (T := TX2) (N := 10) (v := .int (x 25 0 ↑a 8)) hx hb htg inG_wsX20 hown hK.1 hW.1 q0 h2 rfl 8 (by decide) (htg _ hl) (fun _ h9 => h9) rfl hdg kk
theorem pf_25_8 (hx : p.tables.exec = Jvm.exec) (hb : c.code = cc) (htg : ∀ w ∈ wsG, w.before args s = true) {own : String} {index : Nat} (hown : s.vm.findClass own = some m.cls) (hK : Kt G s) (hW : Wh G x y H) (hS : va_S (gF G) H0 H locs) (a : Fin 28) (hl : Cond.fieldLink own index "RobotCell$Command" "one" "I" ∈ wsG) {v : Int32} (hdg : decode cc pc = .ok (.putfield index, 3)) (kk : ∀ (H1 : Heap) (locs1 : List Loc), Wh G (up4 x 25 0 ↑a 8 v) y H1 → va_S (gF G) H0 H1 locs1 → W p l e R s m args below meth c H1 locs1 cells slots Q (F0 m (pc + 3) ls rest)) : W p l e R s m args below meth c H locs cells slots Q (F0 m pc ls (.int v :: .ref (gA G 25 0 ↑a) :: rest)) := by
  obtain ⟨q0, h0, h2⟩ := wl_get (G := G) (x := x) (y := y) (id_25 a)
  rw [(mm_c (by decide))] at h2
  have hs := wl_set_c (G := G) (x := x) (y := y) (s := 8) (v := v) (by decide) hW.2 h0
  refine va_put (ci := 4) (C := RX2) (T := TX2) (N := 10) (v := .int v) (ty := .int) hx hb htg inG_wsX20 tyX2 tyX2_ok nmX2 hown hK.1 hW.1 hW.2 hS q0 h2 rfl 8 (by decide) (htg _ hl) (fun _ h9 => h9) rfl (by decide +kernel) rfl rfl (Nat.le_of_ble_eq_true rfl) hdg (fun H1 locs1 hP hD hS => kk H1 locs1 ⟨?_, ?_⟩ hS)
  · rw [← hs]; exact hP
  · rw [← hs]; exact hD
theorem gf_25_9 (hx : p.tables.exec = Jvm.exec) (hb : c.code = cc) (htg : ∀ w ∈ wsG, w.before args s = true) {own : String} {index : Nat} (hown : s.vm.findClass own = some m.cls) (hK : Kt G s) (hW : Wh G x y H) (a : Fin 28) (hl : Cond.fieldLink own index "RobotCell$Command" "other" "I" ∈ wsG) (hdg : decode cc pc = .ok (.getfield index, 3)) (kk : W p l e R s m args below meth c H locs cells slots Q (F0 m (pc + 3) ls (.int (x 25 0 ↑a 9) :: rest))) : W p l e R s m args below meth c H locs cells slots Q (F0 m pc ls (.ref (gA G 25 0 ↑a) :: rest)) := by
  obtain ⟨q0, h0, h2⟩ := wl_get (G := G) (x := x) (y := y) (id_25 a)
  rw [(mm_c (by decide))] at h2
  exact va_get (ci := 4) (C := RX2) (T := TX2) (N := 10) (v := .int (x 25 0 ↑a 9)) hx hb htg inG_wsX20 hown hK.1 hW.1 q0 h2 rfl 9 (by decide) (htg _ hl) (fun _ h9 => h9) rfl hdg kk
theorem pf_25_9 (hx : p.tables.exec = Jvm.exec) (hb : c.code = cc) (htg : ∀ w ∈ wsG, w.before args s = true) {own : String} {index : Nat} (hown : s.vm.findClass own = some m.cls) (hK : Kt G s) (hW : Wh G x y H) (hS : va_S (gF G) H0 H locs) (a : Fin 28) (hl : Cond.fieldLink own index "RobotCell$Command" "other" "I" ∈ wsG) {v : Int32} (hdg : decode cc pc = .ok (.putfield index, 3)) (kk : ∀ (H1 : Heap) (locs1 : List Loc), Wh G (up4 x 25 0 ↑a 9 v) y H1 → va_S (gF G) H0 H1 locs1 → W p l e R s m args below meth c H1 locs1 cells slots Q (F0 m (pc + 3) ls rest)) : W p l e R s m args below meth c H locs cells slots Q (F0 m pc ls (.int v :: .ref (gA G 25 0 ↑a) :: rest)) := by
  obtain ⟨q0, h0, h2⟩ := wl_get (G := G) (x := x) (y := y) (id_25 a)
  rw [(mm_c (by decide))] at h2
  have hs := wl_set_c (G := G) (x := x) (y := y) (s := 9) (v := v) (by decide) hW.2 h0
  refine va_put (ci := 4) (C := RX2) (T := TX2) (N := 10) (v := .int v) (ty := .int) hx hb htg inG_wsX20 tyX2 tyX2_ok nmX2 hown hK.1 hW.1 hW.2 hS q0 h2 rfl 9 (by decide) (htg _ hl) (fun _ h9 => h9) rfl (by decide +kernel) rfl rfl (Nat.le_of_ble_eq_true rfl) hdg (fun H1 locs1 hP hD hS => kk H1 locs1 ⟨?_, ?_⟩ hS)
  · rw [← hs]; exact hP
  · rw [← hs]; exact hD
theorem rc_25 (hK : Kt G s) (hW : Wh G x y H) (a : Fin 28) : ∃ cell : Cell, H[(gA G 25 0 ↑a)]? = some cell ∧ cell.vm.isStatics = false ∧ s.vm.findClass RX2 = some cell.cls := by
  obtain ⟨q0, h0, h2⟩ := wl_get (G := G) (x := x) (y := y) (id_25 a)
  exact va_recv hK.1 hW.1 (ci := 4) (q := (RX2, TX2, 10)) rfl h2
theorem gf_40_0 (hx : p.tables.exec = Jvm.exec) (hb : c.code = cc) (htg : ∀ w ∈ wsG, w.before args s = true) {own : String} {index : Nat} (hown : s.vm.findClass own = some m.cls) (hK : Kt G s) (hW : Wh G x y H) (hl : Cond.fieldLink own index "RobotCellModel" "thrown" "I" ∈ wsG) (hdg : decode cc pc = .ok (.getfield index, 3)) (kk : W p l e R s m args below meth c H locs cells slots Q (F0 m (pc + 3) ls (.int (y 40 0 0 0) :: rest))) : W p l e R s m args below meth c H locs cells slots Q (F0 m pc ls (.ref (gA G 40 0 0) :: rest)) := by
  obtain ⟨q0, h0, h2⟩ := wl_get (G := G) (x := x) (y := y) (id_40)
  rw [(mm_r (by decide))] at h2
  exact va_get (ci := 14) (C := RX12) (T := TX12) (N := 63) (v := .int (y 40 0 0 0)) hx hb htg inG_wsX120 hown hK.1 hW.1 q0 h2 rfl 0 (by decide) (htg _ hl) (fun _ h9 => h9) rfl hdg kk
theorem pf_40_0 (hx : p.tables.exec = Jvm.exec) (hb : c.code = cc) (htg : ∀ w ∈ wsG, w.before args s = true) {own : String} {index : Nat} (hown : s.vm.findClass own = some m.cls) (hK : Kt G s) (hW : Wh G x y H) (hS : va_S (gF G) H0 H locs) (hl : Cond.fieldLink own index "RobotCellModel" "thrown" "I" ∈ wsG) {v : Int32} (hdg : decode cc pc = .ok (.putfield index, 3)) (kk : ∀ (H1 : Heap) (locs1 : List Loc), Wh G x (up4 y 40 0 0 0 v) H1 → va_S (gF G) H0 H1 locs1 → W p l e R s m args below meth c H1 locs1 cells slots Q (F0 m (pc + 3) ls rest)) : W p l e R s m args below meth c H locs cells slots Q (F0 m pc ls (.int v :: .ref (gA G 40 0 0) :: rest)) := by
  obtain ⟨q0, h0, h2⟩ := wl_get (G := G) (x := x) (y := y) (id_40)
  rw [(mm_r (by decide))] at h2
  have hs := wl_set_r (G := G) (x := x) (y := y) (s := 0) (v := v) (by decide) hW.2 h0
  refine va_put (ci := 14) (C := RX12) (T := TX12) (N := 63) (v := .int v) (ty := .int) hx hb htg inG_wsX120 tyX12 tyX12_ok nmX12 hown hK.1 hW.1 hW.2 hS q0 h2 rfl 0 (by decide) (htg _ hl) (fun _ h9 => h9) rfl (by decide +kernel) rfl rfl (Nat.le_of_ble_eq_true rfl) hdg (fun H1 locs1 hP hD hS => kk H1 locs1 ⟨?_, ?_⟩ hS)
  · rw [← hs]; exact hP
  · rw [← hs]; exact hD
theorem gf_40_1 (hx : p.tables.exec = Jvm.exec) (hb : c.code = cc) (htg : ∀ w ∈ wsG, w.before args s = true) {own : String} {index : Nat} (hown : s.vm.findClass own = some m.cls) (hK : Kt G s) (hW : Wh G x y H) (hl : Cond.fieldLink own index "RobotCellModel" "interlock" "[I" ∈ wsG) (hdg : decode cc pc = .ok (.getfield index, 3)) (kk : W p l e R s m args below meth c H locs cells slots Q (F0 m (pc + 3) ls (.ref (gA G 101 0 0) :: rest))) : W p l e R s m args below meth c H locs cells slots Q (F0 m pc ls (.ref (gA G 40 0 0) :: rest)) := by
  obtain ⟨q0, h0, h2⟩ := wl_get (G := G) (x := x) (y := y) (id_40)
  rw [(mm_r (by decide))] at h2
  exact va_get (ci := 14) (C := RX12) (T := TX12) (N := 63) (v := .ref (gA G 101 0 0)) hx hb htg inG_wsX120 hown hK.1 hW.1 q0 h2 rfl 1 (by decide) (htg _ hl) (fun _ h9 => h9) rfl hdg kk
theorem gf_40_2 (hx : p.tables.exec = Jvm.exec) (hb : c.code = cc) (htg : ∀ w ∈ wsG, w.before args s = true) {own : String} {index : Nat} (hown : s.vm.findClass own = some m.cls) (hK : Kt G s) (hW : Wh G x y H) (hl : Cond.fieldLink own index "RobotCellModel" "heldTicks" "[I" ∈ wsG) (hdg : decode cc pc = .ok (.getfield index, 3)) (kk : W p l e R s m args below meth c H locs cells slots Q (F0 m (pc + 3) ls (.ref (gA G 102 0 0) :: rest))) : W p l e R s m args below meth c H locs cells slots Q (F0 m pc ls (.ref (gA G 40 0 0) :: rest)) := by
  obtain ⟨q0, h0, h2⟩ := wl_get (G := G) (x := x) (y := y) (id_40)
  rw [(mm_r (by decide))] at h2
  exact va_get (ci := 14) (C := RX12) (T := TX12) (N := 63) (v := .ref (gA G 102 0 0)) hx hb htg inG_wsX120 hown hK.1 hW.1 q0 h2 rfl 2 (by decide) (htg _ hl) (fun _ h9 => h9) rfl hdg kk
theorem gf_40_3 (hx : p.tables.exec = Jvm.exec) (hb : c.code = cc) (htg : ∀ w ∈ wsG, w.before args s = true) {own : String} {index : Nat} (hown : s.vm.findClass own = some m.cls) (hK : Kt G s) (hW : Wh G x y H) (hl : Cond.fieldLink own index "RobotCellModel" "capacity" "[I" ∈ wsG) (hdg : decode cc pc = .ok (.getfield index, 3)) (kk : W p l e R s m args below meth c H locs cells slots Q (F0 m (pc + 3) ls (.ref (gA G 103 0 0) :: rest))) : W p l e R s m args below meth c H locs cells slots Q (F0 m pc ls (.ref (gA G 40 0 0) :: rest)) := by
  obtain ⟨q0, h0, h2⟩ := wl_get (G := G) (x := x) (y := y) (id_40)
  rw [(mm_r (by decide))] at h2
  exact va_get (ci := 14) (C := RX12) (T := TX12) (N := 63) (v := .ref (gA G 103 0 0)) hx hb htg inG_wsX120 hown hK.1 hW.1 q0 h2 rfl 3 (by decide) (htg _ hl) (fun _ h9 => h9) rfl hdg kk
theorem gf_40_4 (hx : p.tables.exec = Jvm.exec) (hb : c.code = cc) (htg : ∀ w ∈ wsG, w.before args s = true) {own : String} {index : Nat} (hown : s.vm.findClass own = some m.cls) (hK : Kt G s) (hW : Wh G x y H) (hl : Cond.fieldLink own index "RobotCellModel" "partMany" "[I" ∈ wsG) (hdg : decode cc pc = .ok (.getfield index, 3)) (kk : W p l e R s m args below meth c H locs cells slots Q (F0 m (pc + 3) ls (.ref (gA G 104 0 0) :: rest))) : W p l e R s m args below meth c H locs cells slots Q (F0 m pc ls (.ref (gA G 40 0 0) :: rest)) := by
  obtain ⟨q0, h0, h2⟩ := wl_get (G := G) (x := x) (y := y) (id_40)
  rw [(mm_r (by decide))] at h2
  exact va_get (ci := 14) (C := RX12) (T := TX12) (N := 63) (v := .ref (gA G 104 0 0)) hx hb htg inG_wsX120 hown hK.1 hW.1 q0 h2 rfl 4 (by decide) (htg _ hl) (fun _ h9 => h9) rfl hdg kk
theorem gf_40_5 (hx : p.tables.exec = Jvm.exec) (hb : c.code = cc) (htg : ∀ w ∈ wsG, w.before args s = true) {own : String} {index : Nat} (hown : s.vm.findClass own = some m.cls) (hK : Kt G s) (hW : Wh G x y H) (hl : Cond.fieldLink own index "RobotCellModel" "parts" "[I" ∈ wsG) (hdg : decode cc pc = .ok (.getfield index, 3)) (kk : W p l e R s m args below meth c H locs cells slots Q (F0 m (pc + 3) ls (.ref (gA G 105 0 0) :: rest))) : W p l e R s m args below meth c H locs cells slots Q (F0 m pc ls (.ref (gA G 40 0 0) :: rest)) := by
  obtain ⟨q0, h0, h2⟩ := wl_get (G := G) (x := x) (y := y) (id_40)
  rw [(mm_r (by decide))] at h2
  exact va_get (ci := 14) (C := RX12) (T := TX12) (N := 63) (v := .ref (gA G 105 0 0)) hx hb htg inG_wsX120 hown hK.1 hW.1 q0 h2 rfl 5 (by decide) (htg _ hl) (fun _ h9 => h9) rfl hdg kk
theorem gf_40_6 (hx : p.tables.exec = Jvm.exec) (hb : c.code = cc) (htg : ∀ w ∈ wsG, w.before args s = true) {own : String} {index : Nat} (hown : s.vm.findClass own = some m.cls) (hK : Kt G s) (hW : Wh G x y H) (hl : Cond.fieldLink own index "RobotCellModel" "promisedPlaces" "[I" ∈ wsG) (hdg : decode cc pc = .ok (.getfield index, 3)) (kk : W p l e R s m args below meth c H locs cells slots Q (F0 m (pc + 3) ls (.ref (gA G 106 0 0) :: rest))) : W p l e R s m args below meth c H locs cells slots Q (F0 m pc ls (.ref (gA G 40 0 0) :: rest)) := by
  obtain ⟨q0, h0, h2⟩ := wl_get (G := G) (x := x) (y := y) (id_40)
  rw [(mm_r (by decide))] at h2
  exact va_get (ci := 14) (C := RX12) (T := TX12) (N := 63) (v := .ref (gA G 106 0 0)) hx hb htg inG_wsX120 hown hK.1 hW.1 q0 h2 rfl 6 (by decide) (htg _ hl) (fun _ h9 => h9) rfl hdg kk
theorem gf_40_7 (hx : p.tables.exec = Jvm.exec) (hb : c.code = cc) (htg : ∀ w ∈ wsG, w.before args s = true) {own : String} {index : Nat} (hown : s.vm.findClass own = some m.cls) (hK : Kt G s) (hW : Wh G x y H) (hl : Cond.fieldLink own index "RobotCellModel" "promisedParts" "[I" ∈ wsG) (hdg : decode cc pc = .ok (.getfield index, 3)) (kk : W p l e R s m args below meth c H locs cells slots Q (F0 m (pc + 3) ls (.ref (gA G 107 0 0) :: rest))) : W p l e R s m args below meth c H locs cells slots Q (F0 m pc ls (.ref (gA G 40 0 0) :: rest)) := by
  obtain ⟨q0, h0, h2⟩ := wl_get (G := G) (x := x) (y := y) (id_40)
  rw [(mm_r (by decide))] at h2
  exact va_get (ci := 14) (C := RX12) (T := TX12) (N := 63) (v := .ref (gA G 107 0 0)) hx hb htg inG_wsX120 hown hK.1 hW.1 q0 h2 rfl 7 (by decide) (htg _ hl) (fun _ h9 => h9) rfl hdg kk
theorem gf_40_8 (hx : p.tables.exec = Jvm.exec) (hb : c.code = cc) (htg : ∀ w ∈ wsG, w.before args s = true) {own : String} {index : Nat} (hown : s.vm.findClass own = some m.cls) (hK : Kt G s) (hW : Wh G x y H) (hl : Cond.fieldLink own index "RobotCellModel" "came" "[I" ∈ wsG) (hdg : decode cc pc = .ok (.getfield index, 3)) (kk : W p l e R s m args below meth c H locs cells slots Q (F0 m (pc + 3) ls (.ref (gA G 108 0 0) :: rest))) : W p l e R s m args below meth c H locs cells slots Q (F0 m pc ls (.ref (gA G 40 0 0) :: rest)) := by
  obtain ⟨q0, h0, h2⟩ := wl_get (G := G) (x := x) (y := y) (id_40)
  rw [(mm_r (by decide))] at h2
  exact va_get (ci := 14) (C := RX12) (T := TX12) (N := 63) (v := .ref (gA G 108 0 0)) hx hb htg inG_wsX120 hown hK.1 hW.1 q0 h2 rfl 8 (by decide) (htg _ hl) (fun _ h9 => h9) rfl hdg kk
theorem gf_40_9 (hx : p.tables.exec = Jvm.exec) (hb : c.code = cc) (htg : ∀ w ∈ wsG, w.before args s = true) {own : String} {index : Nat} (hown : s.vm.findClass own = some m.cls) (hK : Kt G s) (hW : Wh G x y H) (hl : Cond.fieldLink own index "RobotCellModel" "gone" "[I" ∈ wsG) (hdg : decode cc pc = .ok (.getfield index, 3)) (kk : W p l e R s m args below meth c H locs cells slots Q (F0 m (pc + 3) ls (.ref (gA G 109 0 0) :: rest))) : W p l e R s m args below meth c H locs cells slots Q (F0 m pc ls (.ref (gA G 40 0 0) :: rest)) := by
  obtain ⟨q0, h0, h2⟩ := wl_get (G := G) (x := x) (y := y) (id_40)
  rw [(mm_r (by decide))] at h2
  exact va_get (ci := 14) (C := RX12) (T := TX12) (N := 63) (v := .ref (gA G 109 0 0)) hx hb htg inG_wsX120 hown hK.1 hW.1 q0 h2 rfl 9 (by decide) (htg _ hl) (fun _ h9 => h9) rfl hdg kk
theorem gf_40_10 (hx : p.tables.exec = Jvm.exec) (hb : c.code = cc) (htg : ∀ w ∈ wsG, w.before args s = true) {own : String} {index : Nat} (hown : s.vm.findClass own = some m.cls) (hK : Kt G s) (hW : Wh G x y H) (hl : Cond.fieldLink own index "RobotCellModel" "reach" "[I" ∈ wsG) (hdg : decode cc pc = .ok (.getfield index, 3)) (kk : W p l e R s m args below meth c H locs cells slots Q (F0 m (pc + 3) ls (.ref (gA G 110 0 0) :: rest))) : W p l e R s m args below meth c H locs cells slots Q (F0 m pc ls (.ref (gA G 40 0 0) :: rest)) := by
  obtain ⟨q0, h0, h2⟩ := wl_get (G := G) (x := x) (y := y) (id_40)
  rw [(mm_r (by decide))] at h2
  exact va_get (ci := 14) (C := RX12) (T := TX12) (N := 63) (v := .ref (gA G 110 0 0)) hx hb htg inG_wsX120 hown hK.1 hW.1 q0 h2 rfl 10 (by decide) (htg _ hl) (fun _ h9 => h9) rfl hdg kk
theorem gf_40_11 (hx : p.tables.exec = Jvm.exec) (hb : c.code = cc) (htg : ∀ w ∈ wsG, w.before args s = true) {own : String} {index : Nat} (hown : s.vm.findClass own = some m.cls) (hK : Kt G s) (hW : Wh G x y H) (hl : Cond.fieldLink own index "RobotCellModel" "rowMany" "[I" ∈ wsG) (hdg : decode cc pc = .ok (.getfield index, 3)) (kk : W p l e R s m args below meth c H locs cells slots Q (F0 m (pc + 3) ls (.ref (gA G 111 0 0) :: rest))) : W p l e R s m args below meth c H locs cells slots Q (F0 m pc ls (.ref (gA G 40 0 0) :: rest)) := by
  obtain ⟨q0, h0, h2⟩ := wl_get (G := G) (x := x) (y := y) (id_40)
  rw [(mm_r (by decide))] at h2
  exact va_get (ci := 14) (C := RX12) (T := TX12) (N := 63) (v := .ref (gA G 111 0 0)) hx hb htg inG_wsX120 hown hK.1 hW.1 q0 h2 rfl 11 (by decide) (htg _ hl) (fun _ h9 => h9) rfl hdg kk
theorem gf_40_12 (hx : p.tables.exec = Jvm.exec) (hb : c.code = cc) (htg : ∀ w ∈ wsG, w.before args s = true) {own : String} {index : Nat} (hown : s.vm.findClass own = some m.cls) (hK : Kt G s) (hW : Wh G x y H) (hl : Cond.fieldLink own index "RobotCellModel" "row" "[I" ∈ wsG) (hdg : decode cc pc = .ok (.getfield index, 3)) (kk : W p l e R s m args below meth c H locs cells slots Q (F0 m (pc + 3) ls (.ref (gA G 112 0 0) :: rest))) : W p l e R s m args below meth c H locs cells slots Q (F0 m pc ls (.ref (gA G 40 0 0) :: rest)) := by
  obtain ⟨q0, h0, h2⟩ := wl_get (G := G) (x := x) (y := y) (id_40)
  rw [(mm_r (by decide))] at h2
  exact va_get (ci := 14) (C := RX12) (T := TX12) (N := 63) (v := .ref (gA G 112 0 0)) hx hb htg inG_wsX120 hown hK.1 hW.1 q0 h2 rfl 12 (by decide) (htg _ hl) (fun _ h9 => h9) rfl hdg kk
theorem gf_40_13 (hx : p.tables.exec = Jvm.exec) (hb : c.code = cc) (htg : ∀ w ∈ wsG, w.before args s = true) {own : String} {index : Nat} (hown : s.vm.findClass own = some m.cls) (hK : Kt G s) (hW : Wh G x y H) (hl : Cond.fieldLink own index "RobotCellModel" "active" "[I" ∈ wsG) (hdg : decode cc pc = .ok (.getfield index, 3)) (kk : W p l e R s m args below meth c H locs cells slots Q (F0 m (pc + 3) ls (.ref (gA G 113 0 0) :: rest))) : W p l e R s m args below meth c H locs cells slots Q (F0 m pc ls (.ref (gA G 40 0 0) :: rest)) := by
  obtain ⟨q0, h0, h2⟩ := wl_get (G := G) (x := x) (y := y) (id_40)
  rw [(mm_r (by decide))] at h2
  exact va_get (ci := 14) (C := RX12) (T := TX12) (N := 63) (v := .ref (gA G 113 0 0)) hx hb htg inG_wsX120 hown hK.1 hW.1 q0 h2 rfl 13 (by decide) (htg _ hl) (fun _ h9 => h9) rfl hdg kk
theorem gf_40_14 (hx : p.tables.exec = Jvm.exec) (hb : c.code = cc) (htg : ∀ w ∈ wsG, w.before args s = true) {own : String} {index : Nat} (hown : s.vm.findClass own = some m.cls) (hK : Kt G s) (hW : Wh G x y H) (hl : Cond.fieldLink own index "RobotCellModel" "state" "[I" ∈ wsG) (hdg : decode cc pc = .ok (.getfield index, 3)) (kk : W p l e R s m args below meth c H locs cells slots Q (F0 m (pc + 3) ls (.ref (gA G 114 0 0) :: rest))) : W p l e R s m args below meth c H locs cells slots Q (F0 m pc ls (.ref (gA G 40 0 0) :: rest)) := by
  obtain ⟨q0, h0, h2⟩ := wl_get (G := G) (x := x) (y := y) (id_40)
  rw [(mm_r (by decide))] at h2
  exact va_get (ci := 14) (C := RX12) (T := TX12) (N := 63) (v := .ref (gA G 114 0 0)) hx hb htg inG_wsX120 hown hK.1 hW.1 q0 h2 rfl 14 (by decide) (htg _ hl) (fun _ h9 => h9) rfl hdg kk
theorem gf_40_15 (hx : p.tables.exec = Jvm.exec) (hb : c.code = cc) (htg : ∀ w ∈ wsG, w.before args s = true) {own : String} {index : Nat} (hown : s.vm.findClass own = some m.cls) (hK : Kt G s) (hW : Wh G x y H) (hl : Cond.fieldLink own index "RobotCellModel" "pos" "[I" ∈ wsG) (hdg : decode cc pc = .ok (.getfield index, 3)) (kk : W p l e R s m args below meth c H locs cells slots Q (F0 m (pc + 3) ls (.ref (gA G 115 0 0) :: rest))) : W p l e R s m args below meth c H locs cells slots Q (F0 m pc ls (.ref (gA G 40 0 0) :: rest)) := by
  obtain ⟨q0, h0, h2⟩ := wl_get (G := G) (x := x) (y := y) (id_40)
  rw [(mm_r (by decide))] at h2
  exact va_get (ci := 14) (C := RX12) (T := TX12) (N := 63) (v := .ref (gA G 115 0 0)) hx hb htg inG_wsX120 hown hK.1 hW.1 q0 h2 rfl 15 (by decide) (htg _ hl) (fun _ h9 => h9) rfl hdg kk
theorem gf_40_16 (hx : p.tables.exec = Jvm.exec) (hb : c.code = cc) (htg : ∀ w ∈ wsG, w.before args s = true) {own : String} {index : Nat} (hown : s.vm.findClass own = some m.cls) (hK : Kt G s) (hW : Wh G x y H) (hl : Cond.fieldLink own index "RobotCellModel" "toGo" "[I" ∈ wsG) (hdg : decode cc pc = .ok (.getfield index, 3)) (kk : W p l e R s m args below meth c H locs cells slots Q (F0 m (pc + 3) ls (.ref (gA G 116 0 0) :: rest))) : W p l e R s m args below meth c H locs cells slots Q (F0 m pc ls (.ref (gA G 40 0 0) :: rest)) := by
  obtain ⟨q0, h0, h2⟩ := wl_get (G := G) (x := x) (y := y) (id_40)
  rw [(mm_r (by decide))] at h2
  exact va_get (ci := 14) (C := RX12) (T := TX12) (N := 63) (v := .ref (gA G 116 0 0)) hx hb htg inG_wsX120 hown hK.1 hW.1 q0 h2 rfl 16 (by decide) (htg _ hl) (fun _ h9 => h9) rfl hdg kk
theorem gf_40_17 (hx : p.tables.exec = Jvm.exec) (hb : c.code = cc) (htg : ∀ w ∈ wsG, w.before args s = true) {own : String} {index : Nat} (hown : s.vm.findClass own = some m.cls) (hK : Kt G s) (hW : Wh G x y H) (hl : Cond.fieldLink own index "RobotCellModel" "patience" "[I" ∈ wsG) (hdg : decode cc pc = .ok (.getfield index, 3)) (kk : W p l e R s m args below meth c H locs cells slots Q (F0 m (pc + 3) ls (.ref (gA G 117 0 0) :: rest))) : W p l e R s m args below meth c H locs cells slots Q (F0 m pc ls (.ref (gA G 40 0 0) :: rest)) := by
  obtain ⟨q0, h0, h2⟩ := wl_get (G := G) (x := x) (y := y) (id_40)
  rw [(mm_r (by decide))] at h2
  exact va_get (ci := 14) (C := RX12) (T := TX12) (N := 63) (v := .ref (gA G 117 0 0)) hx hb htg inG_wsX120 hown hK.1 hW.1 q0 h2 rfl 17 (by decide) (htg _ hl) (fun _ h9 => h9) rfl hdg kk
theorem gf_40_18 (hx : p.tables.exec = Jvm.exec) (hb : c.code = cc) (htg : ∀ w ∈ wsG, w.before args s = true) {own : String} {index : Nat} (hown : s.vm.findClass own = some m.cls) (hK : Kt G s) (hW : Wh G x y H) (hl : Cond.fieldLink own index "RobotCellModel" "why" "[I" ∈ wsG) (hdg : decode cc pc = .ok (.getfield index, 3)) (kk : W p l e R s m args below meth c H locs cells slots Q (F0 m (pc + 3) ls (.ref (gA G 118 0 0) :: rest))) : W p l e R s m args below meth c H locs cells slots Q (F0 m pc ls (.ref (gA G 40 0 0) :: rest)) := by
  obtain ⟨q0, h0, h2⟩ := wl_get (G := G) (x := x) (y := y) (id_40)
  rw [(mm_r (by decide))] at h2
  exact va_get (ci := 14) (C := RX12) (T := TX12) (N := 63) (v := .ref (gA G 118 0 0)) hx hb htg inG_wsX120 hown hK.1 hW.1 q0 h2 rfl 18 (by decide) (htg _ hl) (fun _ h9 => h9) rfl hdg kk
theorem gf_40_19 (hx : p.tables.exec = Jvm.exec) (hb : c.code = cc) (htg : ∀ w ∈ wsG, w.before args s = true) {own : String} {index : Nat} (hown : s.vm.findClass own = some m.cls) (hK : Kt G s) (hW : Wh G x y H) (hl : Cond.fieldLink own index "RobotCellModel" "detail" "[I" ∈ wsG) (hdg : decode cc pc = .ok (.getfield index, 3)) (kk : W p l e R s m args below meth c H locs cells slots Q (F0 m (pc + 3) ls (.ref (gA G 119 0 0) :: rest))) : W p l e R s m args below meth c H locs cells slots Q (F0 m pc ls (.ref (gA G 40 0 0) :: rest)) := by
  obtain ⟨q0, h0, h2⟩ := wl_get (G := G) (x := x) (y := y) (id_40)
  rw [(mm_r (by decide))] at h2
  exact va_get (ci := 14) (C := RX12) (T := TX12) (N := 63) (v := .ref (gA G 119 0 0)) hx hb htg inG_wsX120 hown hK.1 hW.1 q0 h2 rfl 19 (by decide) (htg _ hl) (fun _ h9 => h9) rfl hdg kk
theorem gf_40_20 (hx : p.tables.exec = Jvm.exec) (hb : c.code = cc) (htg : ∀ w ∈ wsG, w.before args s = true) {own : String} {index : Nat} (hown : s.vm.findClass own = some m.cls) (hK : Kt G s) (hW : Wh G x y H) (hl : Cond.fieldLink own index "RobotCellModel" "refusals" "[I" ∈ wsG) (hdg : decode cc pc = .ok (.getfield index, 3)) (kk : W p l e R s m args below meth c H locs cells slots Q (F0 m (pc + 3) ls (.ref (gA G 120 0 0) :: rest))) : W p l e R s m args below meth c H locs cells slots Q (F0 m pc ls (.ref (gA G 40 0 0) :: rest)) := by
  obtain ⟨q0, h0, h2⟩ := wl_get (G := G) (x := x) (y := y) (id_40)
  rw [(mm_r (by decide))] at h2
  exact va_get (ci := 14) (C := RX12) (T := TX12) (N := 63) (v := .ref (gA G 120 0 0)) hx hb htg inG_wsX120 hown hK.1 hW.1 q0 h2 rfl 20 (by decide) (htg _ hl) (fun _ h9 => h9) rfl hdg kk
theorem gf_40_21 (hx : p.tables.exec = Jvm.exec) (hb : c.code = cc) (htg : ∀ w ∈ wsG, w.before args s = true) {own : String} {index : Nat} (hown : s.vm.findClass own = some m.cls) (hK : Kt G s) (hW : Wh G x y H) (hl : Cond.fieldLink own index "RobotCellModel" "busy" "[I" ∈ wsG) (hdg : decode cc pc = .ok (.getfield index, 3)) (kk : W p l e R s m args below meth c H locs cells slots Q (F0 m (pc + 3) ls (.ref (gA G 121 0 0) :: rest))) : W p l e R s m args below meth c H locs cells slots Q (F0 m pc ls (.ref (gA G 40 0 0) :: rest)) := by
  obtain ⟨q0, h0, h2⟩ := wl_get (G := G) (x := x) (y := y) (id_40)
  rw [(mm_r (by decide))] at h2
  exact va_get (ci := 14) (C := RX12) (T := TX12) (N := 63) (v := .ref (gA G 121 0 0)) hx hb htg inG_wsX120 hown hK.1 hW.1 q0 h2 rfl 21 (by decide) (htg _ hl) (fun _ h9 => h9) rfl hdg kk
theorem gf_40_22 (hx : p.tables.exec = Jvm.exec) (hb : c.code = cc) (htg : ∀ w ∈ wsG, w.before args s = true) {own : String} {index : Nat} (hown : s.vm.findClass own = some m.cls) (hK : Kt G s) (hW : Wh G x y H) (hl : Cond.fieldLink own index "RobotCellModel" "jobArm" "[I" ∈ wsG) (hdg : decode cc pc = .ok (.getfield index, 3)) (kk : W p l e R s m args below meth c H locs cells slots Q (F0 m (pc + 3) ls (.ref (gA G 122 0 0) :: rest))) : W p l e R s m args below meth c H locs cells slots Q (F0 m pc ls (.ref (gA G 40 0 0) :: rest)) := by
  obtain ⟨q0, h0, h2⟩ := wl_get (G := G) (x := x) (y := y) (id_40)
  rw [(mm_r (by decide))] at h2
  exact va_get (ci := 14) (C := RX12) (T := TX12) (N := 63) (v := .ref (gA G 122 0 0)) hx hb htg inG_wsX120 hown hK.1 hW.1 q0 h2 rfl 22 (by decide) (htg _ hl) (fun _ h9 => h9) rfl hdg kk
theorem gf_40_23 (hx : p.tables.exec = Jvm.exec) (hb : c.code = cc) (htg : ∀ w ∈ wsG, w.before args s = true) {own : String} {index : Nat} (hown : s.vm.findClass own = some m.cls) (hK : Kt G s) (hW : Wh G x y H) (hl : Cond.fieldLink own index "RobotCellModel" "jobPath" "[I" ∈ wsG) (hdg : decode cc pc = .ok (.getfield index, 3)) (kk : W p l e R s m args below meth c H locs cells slots Q (F0 m (pc + 3) ls (.ref (gA G 123 0 0) :: rest))) : W p l e R s m args below meth c H locs cells slots Q (F0 m pc ls (.ref (gA G 40 0 0) :: rest)) := by
  obtain ⟨q0, h0, h2⟩ := wl_get (G := G) (x := x) (y := y) (id_40)
  rw [(mm_r (by decide))] at h2
  exact va_get (ci := 14) (C := RX12) (T := TX12) (N := 63) (v := .ref (gA G 123 0 0)) hx hb htg inG_wsX120 hown hK.1 hW.1 q0 h2 rfl 23 (by decide) (htg _ hl) (fun _ h9 => h9) rfl hdg kk
theorem gf_40_24 (hx : p.tables.exec = Jvm.exec) (hb : c.code = cc) (htg : ∀ w ∈ wsG, w.before args s = true) {own : String} {index : Nat} (hown : s.vm.findClass own = some m.cls) (hK : Kt G s) (hW : Wh G x y H) (hl : Cond.fieldLink own index "RobotCellModel" "jobSize" "[I" ∈ wsG) (hdg : decode cc pc = .ok (.getfield index, 3)) (kk : W p l e R s m args below meth c H locs cells slots Q (F0 m (pc + 3) ls (.ref (gA G 124 0 0) :: rest))) : W p l e R s m args below meth c H locs cells slots Q (F0 m pc ls (.ref (gA G 40 0 0) :: rest)) := by
  obtain ⟨q0, h0, h2⟩ := wl_get (G := G) (x := x) (y := y) (id_40)
  rw [(mm_r (by decide))] at h2
  exact va_get (ci := 14) (C := RX12) (T := TX12) (N := 63) (v := .ref (gA G 124 0 0)) hx hb htg inG_wsX120 hown hK.1 hW.1 q0 h2 rfl 24 (by decide) (htg _ hl) (fun _ h9 => h9) rfl hdg kk
theorem gf_40_25 (hx : p.tables.exec = Jvm.exec) (hb : c.code = cc) (htg : ∀ w ∈ wsG, w.before args s = true) {own : String} {index : Nat} (hown : s.vm.findClass own = some m.cls) (hK : Kt G s) (hW : Wh G x y H) (hl : Cond.fieldLink own index "RobotCellModel" "jobWork" "[I" ∈ wsG) (hdg : decode cc pc = .ok (.getfield index, 3)) (kk : W p l e R s m args below meth c H locs cells slots Q (F0 m (pc + 3) ls (.ref (gA G 125 0 0) :: rest))) : W p l e R s m args below meth c H locs cells slots Q (F0 m pc ls (.ref (gA G 40 0 0) :: rest)) := by
  obtain ⟨q0, h0, h2⟩ := wl_get (G := G) (x := x) (y := y) (id_40)
  rw [(mm_r (by decide))] at h2
  exact va_get (ci := 14) (C := RX12) (T := TX12) (N := 63) (v := .ref (gA G 125 0 0)) hx hb htg inG_wsX120 hown hK.1 hW.1 q0 h2 rfl 25 (by decide) (htg _ hl) (fun _ h9 => h9) rfl hdg kk
theorem gf_40_26 (hx : p.tables.exec = Jvm.exec) (hb : c.code = cc) (htg : ∀ w ∈ wsG, w.before args s = true) {own : String} {index : Nat} (hown : s.vm.findClass own = some m.cls) (hK : Kt G s) (hW : Wh G x y H) (hl : Cond.fieldLink own index "RobotCellModel" "jobWeight" "[I" ∈ wsG) (hdg : decode cc pc = .ok (.getfield index, 3)) (kk : W p l e R s m args below meth c H locs cells slots Q (F0 m (pc + 3) ls (.ref (gA G 126 0 0) :: rest))) : W p l e R s m args below meth c H locs cells slots Q (F0 m pc ls (.ref (gA G 40 0 0) :: rest)) := by
  obtain ⟨q0, h0, h2⟩ := wl_get (G := G) (x := x) (y := y) (id_40)
  rw [(mm_r (by decide))] at h2
  exact va_get (ci := 14) (C := RX12) (T := TX12) (N := 63) (v := .ref (gA G 126 0 0)) hx hb htg inG_wsX120 hown hK.1 hW.1 q0 h2 rfl 26 (by decide) (htg _ hl) (fun _ h9 => h9) rfl hdg kk
theorem gf_40_27 (hx : p.tables.exec = Jvm.exec) (hb : c.code = cc) (htg : ∀ w ∈ wsG, w.before args s = true) {own : String} {index : Nat} (hown : s.vm.findClass own = some m.cls) (hK : Kt G s) (hW : Wh G x y H) (hl : Cond.fieldLink own index "RobotCellModel" "jobSource" "[I" ∈ wsG) (hdg : decode cc pc = .ok (.getfield index, 3)) (kk : W p l e R s m args below meth c H locs cells slots Q (F0 m (pc + 3) ls (.ref (gA G 127 0 0) :: rest))) : W p l e R s m args below meth c H locs cells slots Q (F0 m pc ls (.ref (gA G 40 0 0) :: rest)) := by
  obtain ⟨q0, h0, h2⟩ := wl_get (G := G) (x := x) (y := y) (id_40)
  rw [(mm_r (by decide))] at h2
  exact va_get (ci := 14) (C := RX12) (T := TX12) (N := 63) (v := .ref (gA G 127 0 0)) hx hb htg inG_wsX120 hown hK.1 hW.1 q0 h2 rfl 27 (by decide) (htg _ hl) (fun _ h9 => h9) rfl hdg kk
theorem gf_40_28 (hx : p.tables.exec = Jvm.exec) (hb : c.code = cc) (htg : ∀ w ∈ wsG, w.before args s = true) {own : String} {index : Nat} (hown : s.vm.findClass own = some m.cls) (hK : Kt G s) (hW : Wh G x y H) (hl : Cond.fieldLink own index "RobotCellModel" "jobTarget" "[I" ∈ wsG) (hdg : decode cc pc = .ok (.getfield index, 3)) (kk : W p l e R s m args below meth c H locs cells slots Q (F0 m (pc + 3) ls (.ref (gA G 128 0 0) :: rest))) : W p l e R s m args below meth c H locs cells slots Q (F0 m pc ls (.ref (gA G 40 0 0) :: rest)) := by
  obtain ⟨q0, h0, h2⟩ := wl_get (G := G) (x := x) (y := y) (id_40)
  rw [(mm_r (by decide))] at h2
  exact va_get (ci := 14) (C := RX12) (T := TX12) (N := 63) (v := .ref (gA G 128 0 0)) hx hb htg inG_wsX120 hown hK.1 hW.1 q0 h2 rfl 28 (by decide) (htg _ hl) (fun _ h9 => h9) rfl hdg kk
theorem gf_40_29 (hx : p.tables.exec = Jvm.exec) (hb : c.code = cc) (htg : ∀ w ∈ wsG, w.before args s = true) {own : String} {index : Nat} (hown : s.vm.findClass own = some m.cls) (hK : Kt G s) (hW : Wh G x y H) (hl : Cond.fieldLink own index "RobotCellModel" "jobState" "[I" ∈ wsG) (hdg : decode cc pc = .ok (.getfield index, 3)) (kk : W p l e R s m args below meth c H locs cells slots Q (F0 m (pc + 3) ls (.ref (gA G 129 0 0) :: rest))) : W p l e R s m args below meth c H locs cells slots Q (F0 m pc ls (.ref (gA G 40 0 0) :: rest)) := by
  obtain ⟨q0, h0, h2⟩ := wl_get (G := G) (x := x) (y := y) (id_40)
  rw [(mm_r (by decide))] at h2
  exact va_get (ci := 14) (C := RX12) (T := TX12) (N := 63) (v := .ref (gA G 129 0 0)) hx hb htg inG_wsX120 hown hK.1 hW.1 q0 h2 rfl 29 (by decide) (htg _ hl) (fun _ h9 => h9) rfl hdg kk
theorem gf_40_30 (hx : p.tables.exec = Jvm.exec) (hb : c.code = cc) (htg : ∀ w ∈ wsG, w.before args s = true) {own : String} {index : Nat} (hown : s.vm.findClass own = some m.cls) (hK : Kt G s) (hW : Wh G x y H) (hl : Cond.fieldLink own index "RobotCellModel" "startedAt" "[I" ∈ wsG) (hdg : decode cc pc = .ok (.getfield index, 3)) (kk : W p l e R s m args below meth c H locs cells slots Q (F0 m (pc + 3) ls (.ref (gA G 130 0 0) :: rest))) : W p l e R s m args below meth c H locs cells slots Q (F0 m pc ls (.ref (gA G 40 0 0) :: rest)) := by
  obtain ⟨q0, h0, h2⟩ := wl_get (G := G) (x := x) (y := y) (id_40)
  rw [(mm_r (by decide))] at h2
  exact va_get (ci := 14) (C := RX12) (T := TX12) (N := 63) (v := .ref (gA G 130 0 0)) hx hb htg inG_wsX120 hown hK.1 hW.1 q0 h2 rfl 30 (by decide) (htg _ hl) (fun _ h9 => h9) rfl hdg kk
theorem gf_40_31 (hx : p.tables.exec = Jvm.exec) (hb : c.code = cc) (htg : ∀ w ∈ wsG, w.before args s = true) {own : String} {index : Nat} (hown : s.vm.findClass own = some m.cls) (hK : Kt G s) (hW : Wh G x y H) (hl : Cond.fieldLink own index "RobotCellModel" "endedAt" "[I" ∈ wsG) (hdg : decode cc pc = .ok (.getfield index, 3)) (kk : W p l e R s m args below meth c H locs cells slots Q (F0 m (pc + 3) ls (.ref (gA G 131 0 0) :: rest))) : W p l e R s m args below meth c H locs cells slots Q (F0 m pc ls (.ref (gA G 40 0 0) :: rest)) := by
  obtain ⟨q0, h0, h2⟩ := wl_get (G := G) (x := x) (y := y) (id_40)
  rw [(mm_r (by decide))] at h2
  exact va_get (ci := 14) (C := RX12) (T := TX12) (N := 63) (v := .ref (gA G 131 0 0)) hx hb htg inG_wsX120 hown hK.1 hW.1 q0 h2 rfl 31 (by decide) (htg _ hl) (fun _ h9 => h9) rfl hdg kk
theorem gf_40_32 (hx : p.tables.exec = Jvm.exec) (hb : c.code = cc) (htg : ∀ w ∈ wsG, w.before args s = true) {own : String} {index : Nat} (hown : s.vm.findClass own = some m.cls) (hK : Kt G s) (hW : Wh G x y H) (hl : Cond.fieldLink own index "RobotCellModel" "log" "[I" ∈ wsG) (hdg : decode cc pc = .ok (.getfield index, 3)) (kk : W p l e R s m args below meth c H locs cells slots Q (F0 m (pc + 3) ls (.ref (gA G 132 0 0) :: rest))) : W p l e R s m args below meth c H locs cells slots Q (F0 m pc ls (.ref (gA G 40 0 0) :: rest)) := by
  obtain ⟨q0, h0, h2⟩ := wl_get (G := G) (x := x) (y := y) (id_40)
  rw [(mm_r (by decide))] at h2
  exact va_get (ci := 14) (C := RX12) (T := TX12) (N := 63) (v := .ref (gA G 132 0 0)) hx hb htg inG_wsX120 hown hK.1 hW.1 q0 h2 rfl 32 (by decide) (htg _ hl) (fun _ h9 => h9) rfl hdg kk
theorem gf_40_33 (hx : p.tables.exec = Jvm.exec) (hb : c.code = cc) (htg : ∀ w ∈ wsG, w.before args s = true) {own : String} {index : Nat} (hown : s.vm.findClass own = some m.cls) (hK : Kt G s) (hW : Wh G x y H) (hl : Cond.fieldLink own index "RobotCellModel" "time" "I" ∈ wsG) (hdg : decode cc pc = .ok (.getfield index, 3)) (kk : W p l e R s m args below meth c H locs cells slots Q (F0 m (pc + 3) ls (.int (y 40 0 0 33) :: rest))) : W p l e R s m args below meth c H locs cells slots Q (F0 m pc ls (.ref (gA G 40 0 0) :: rest)) := by
  obtain ⟨q0, h0, h2⟩ := wl_get (G := G) (x := x) (y := y) (id_40)
  rw [(mm_r (by decide))] at h2
  exact va_get (ci := 14) (C := RX12) (T := TX12) (N := 63) (v := .int (y 40 0 0 33)) hx hb htg inG_wsX120 hown hK.1 hW.1 q0 h2 rfl 33 (by decide) (htg _ hl) (fun _ h9 => h9) rfl hdg kk
theorem pf_40_33 (hx : p.tables.exec = Jvm.exec) (hb : c.code = cc) (htg : ∀ w ∈ wsG, w.before args s = true) {own : String} {index : Nat} (hown : s.vm.findClass own = some m.cls) (hK : Kt G s) (hW : Wh G x y H) (hS : va_S (gF G) H0 H locs) (hl : Cond.fieldLink own index "RobotCellModel" "time" "I" ∈ wsG) {v : Int32} (hdg : decode cc pc = .ok (.putfield index, 3)) (kk : ∀ (H1 : Heap) (locs1 : List Loc), Wh G x (up4 y 40 0 0 33 v) H1 → va_S (gF G) H0 H1 locs1 → W p l e R s m args below meth c H1 locs1 cells slots Q (F0 m (pc + 3) ls rest)) : W p l e R s m args below meth c H locs cells slots Q (F0 m pc ls (.int v :: .ref (gA G 40 0 0) :: rest)) := by
  obtain ⟨q0, h0, h2⟩ := wl_get (G := G) (x := x) (y := y) (id_40)
  rw [(mm_r (by decide))] at h2
  have hs := wl_set_r (G := G) (x := x) (y := y) (s := 33) (v := v) (by decide) hW.2 h0
  refine va_put (ci := 14) (C := RX12) (T := TX12) (N := 63) (v := .int v) (ty := .int) hx hb htg inG_wsX120 tyX12 tyX12_ok nmX12 hown hK.1 hW.1 hW.2 hS q0 h2 rfl 33 (by decide) (htg _ hl) (fun _ h9 => h9) rfl (by decide +kernel) rfl rfl (Nat.le_of_ble_eq_true rfl) hdg (fun H1 locs1 hP hD hS => kk H1 locs1 ⟨?_, ?_⟩ hS)
  · rw [← hs]; exact hP
  · rw [← hs]; exact hD
theorem gf_40_34 (hx : p.tables.exec = Jvm.exec) (hb : c.code = cc) (htg : ∀ w ∈ wsG, w.before args s = true) {own : String} {index : Nat} (hown : s.vm.findClass own = some m.cls) (hK : Kt G s) (hW : Wh G x y H) (hl : Cond.fieldLink own index "RobotCellModel" "jobs" "I" ∈ wsG) (hdg : decode cc pc = .ok (.getfield index, 3)) (kk : W p l e R s m args below meth c H locs cells slots Q (F0 m (pc + 3) ls (.int (y 40 0 0 34) :: rest))) : W p l e R s m args below meth c H locs cells slots Q (F0 m pc ls (.ref (gA G 40 0 0) :: rest)) := by
  obtain ⟨q0, h0, h2⟩ := wl_get (G := G) (x := x) (y := y) (id_40)
  rw [(mm_r (by decide))] at h2
  exact va_get (ci := 14) (C := RX12) (T := TX12) (N := 63) (v := .int (y 40 0 0 34)) hx hb htg inG_wsX120 hown hK.1 hW.1 q0 h2 rfl 34 (by decide) (htg _ hl) (fun _ h9 => h9) rfl hdg kk
theorem pf_40_34 (hx : p.tables.exec = Jvm.exec) (hb : c.code = cc) (htg : ∀ w ∈ wsG, w.before args s = true) {own : String} {index : Nat} (hown : s.vm.findClass own = some m.cls) (hK : Kt G s) (hW : Wh G x y H) (hS : va_S (gF G) H0 H locs) (hl : Cond.fieldLink own index "RobotCellModel" "jobs" "I" ∈ wsG) {v : Int32} (hdg : decode cc pc = .ok (.putfield index, 3)) (kk : ∀ (H1 : Heap) (locs1 : List Loc), Wh G x (up4 y 40 0 0 34 v) H1 → va_S (gF G) H0 H1 locs1 → W p l e R s m args below meth c H1 locs1 cells slots Q (F0 m (pc + 3) ls rest)) : W p l e R s m args below meth c H locs cells slots Q (F0 m pc ls (.int v :: .ref (gA G 40 0 0) :: rest)) := by
  obtain ⟨q0, h0, h2⟩ := wl_get (G := G) (x := x) (y := y) (id_40)
  rw [(mm_r (by decide))] at h2
  have hs := wl_set_r (G := G) (x := x) (y := y) (s := 34) (v := v) (by decide) hW.2 h0
  refine va_put (ci := 14) (C := RX12) (T := TX12) (N := 63) (v := .int v) (ty := .int) hx hb htg inG_wsX120 tyX12 tyX12_ok nmX12 hown hK.1 hW.1 hW.2 hS q0 h2 rfl 34 (by decide) (htg _ hl) (fun _ h9 => h9) rfl (by decide +kernel) rfl rfl (Nat.le_of_ble_eq_true rfl) hdg (fun H1 locs1 hP hD hS => kk H1 locs1 ⟨?_, ?_⟩ hS)
  · rw [← hs]; exact hP
  · rw [← hs]; exact hD
theorem gf_40_35 (hx : p.tables.exec = Jvm.exec) (hb : c.code = cc) (htg : ∀ w ∈ wsG, w.before args s = true) {own : String} {index : Nat} (hown : s.vm.findClass own = some m.cls) (hK : Kt G s) (hW : Wh G x y H) (hl : Cond.fieldLink own index "RobotCellModel" "newParts" "I" ∈ wsG) (hdg : decode cc pc = .ok (.getfield index, 3)) (kk : W p l e R s m args below meth c H locs cells slots Q (F0 m (pc + 3) ls (.int (y 40 0 0 35) :: rest))) : W p l e R s m args below meth c H locs cells slots Q (F0 m pc ls (.ref (gA G 40 0 0) :: rest)) := by
  obtain ⟨q0, h0, h2⟩ := wl_get (G := G) (x := x) (y := y) (id_40)
  rw [(mm_r (by decide))] at h2
  exact va_get (ci := 14) (C := RX12) (T := TX12) (N := 63) (v := .int (y 40 0 0 35)) hx hb htg inG_wsX120 hown hK.1 hW.1 q0 h2 rfl 35 (by decide) (htg _ hl) (fun _ h9 => h9) rfl hdg kk
theorem pf_40_35 (hx : p.tables.exec = Jvm.exec) (hb : c.code = cc) (htg : ∀ w ∈ wsG, w.before args s = true) {own : String} {index : Nat} (hown : s.vm.findClass own = some m.cls) (hK : Kt G s) (hW : Wh G x y H) (hS : va_S (gF G) H0 H locs) (hl : Cond.fieldLink own index "RobotCellModel" "newParts" "I" ∈ wsG) {v : Int32} (hdg : decode cc pc = .ok (.putfield index, 3)) (kk : ∀ (H1 : Heap) (locs1 : List Loc), Wh G x (up4 y 40 0 0 35 v) H1 → va_S (gF G) H0 H1 locs1 → W p l e R s m args below meth c H1 locs1 cells slots Q (F0 m (pc + 3) ls rest)) : W p l e R s m args below meth c H locs cells slots Q (F0 m pc ls (.int v :: .ref (gA G 40 0 0) :: rest)) := by
  obtain ⟨q0, h0, h2⟩ := wl_get (G := G) (x := x) (y := y) (id_40)
  rw [(mm_r (by decide))] at h2
  have hs := wl_set_r (G := G) (x := x) (y := y) (s := 35) (v := v) (by decide) hW.2 h0
  refine va_put (ci := 14) (C := RX12) (T := TX12) (N := 63) (v := .int v) (ty := .int) hx hb htg inG_wsX120 tyX12 tyX12_ok nmX12 hown hK.1 hW.1 hW.2 hS q0 h2 rfl 35 (by decide) (htg _ hl) (fun _ h9 => h9) rfl (by decide +kernel) rfl rfl (Nat.le_of_ble_eq_true rfl) hdg (fun H1 locs1 hP hD hS => kk H1 locs1 ⟨?_, ?_⟩ hS)
  · rw [← hs]; exact hP
  · rw [← hs]; exact hD
theorem gf_40_36 (hx : p.tables.exec = Jvm.exec) (hb : c.code = cc) (htg : ∀ w ∈ wsG, w.before args s = true) {own : String} {index : Nat} (hown : s.vm.findClass own = some m.cls) (hK : Kt G s) (hW : Wh G x y H) (hl : Cond.fieldLink own index "RobotCellModel" "lostParts" "I" ∈ wsG) (hdg : decode cc pc = .ok (.getfield index, 3)) (kk : W p l e R s m args below meth c H locs cells slots Q (F0 m (pc + 3) ls (.int (y 40 0 0 36) :: rest))) : W p l e R s m args below meth c H locs cells slots Q (F0 m pc ls (.ref (gA G 40 0 0) :: rest)) := by
  obtain ⟨q0, h0, h2⟩ := wl_get (G := G) (x := x) (y := y) (id_40)
  rw [(mm_r (by decide))] at h2
  exact va_get (ci := 14) (C := RX12) (T := TX12) (N := 63) (v := .int (y 40 0 0 36)) hx hb htg inG_wsX120 hown hK.1 hW.1 q0 h2 rfl 36 (by decide) (htg _ hl) (fun _ h9 => h9) rfl hdg kk
theorem pf_40_36 (hx : p.tables.exec = Jvm.exec) (hb : c.code = cc) (htg : ∀ w ∈ wsG, w.before args s = true) {own : String} {index : Nat} (hown : s.vm.findClass own = some m.cls) (hK : Kt G s) (hW : Wh G x y H) (hS : va_S (gF G) H0 H locs) (hl : Cond.fieldLink own index "RobotCellModel" "lostParts" "I" ∈ wsG) {v : Int32} (hdg : decode cc pc = .ok (.putfield index, 3)) (kk : ∀ (H1 : Heap) (locs1 : List Loc), Wh G x (up4 y 40 0 0 36 v) H1 → va_S (gF G) H0 H1 locs1 → W p l e R s m args below meth c H1 locs1 cells slots Q (F0 m (pc + 3) ls rest)) : W p l e R s m args below meth c H locs cells slots Q (F0 m pc ls (.int v :: .ref (gA G 40 0 0) :: rest)) := by
  obtain ⟨q0, h0, h2⟩ := wl_get (G := G) (x := x) (y := y) (id_40)
  rw [(mm_r (by decide))] at h2
  have hs := wl_set_r (G := G) (x := x) (y := y) (s := 36) (v := v) (by decide) hW.2 h0
  refine va_put (ci := 14) (C := RX12) (T := TX12) (N := 63) (v := .int v) (ty := .int) hx hb htg inG_wsX120 tyX12 tyX12_ok nmX12 hown hK.1 hW.1 hW.2 hS q0 h2 rfl 36 (by decide) (htg _ hl) (fun _ h9 => h9) rfl (by decide +kernel) rfl rfl (Nat.le_of_ble_eq_true rfl) hdg (fun H1 locs1 hP hD hS => kk H1 locs1 ⟨?_, ?_⟩ hS)
  · rw [← hs]; exact hP
  · rw [← hs]; exact hD
theorem gf_40_37 (hx : p.tables.exec = Jvm.exec) (hb : c.code = cc) (htg : ∀ w ∈ wsG, w.before args s = true) {own : String} {index : Nat} (hown : s.vm.findClass own = some m.cls) (hK : Kt G s) (hW : Wh G x y H) (hl : Cond.fieldLink own index "RobotCellModel" "ended" "I" ∈ wsG) (hdg : decode cc pc = .ok (.getfield index, 3)) (kk : W p l e R s m args below meth c H locs cells slots Q (F0 m (pc + 3) ls (.int (y 40 0 0 37) :: rest))) : W p l e R s m args below meth c H locs cells slots Q (F0 m pc ls (.ref (gA G 40 0 0) :: rest)) := by
  obtain ⟨q0, h0, h2⟩ := wl_get (G := G) (x := x) (y := y) (id_40)
  rw [(mm_r (by decide))] at h2
  exact va_get (ci := 14) (C := RX12) (T := TX12) (N := 63) (v := .int (y 40 0 0 37)) hx hb htg inG_wsX120 hown hK.1 hW.1 q0 h2 rfl 37 (by decide) (htg _ hl) (fun _ h9 => h9) rfl hdg kk
theorem pf_40_37 (hx : p.tables.exec = Jvm.exec) (hb : c.code = cc) (htg : ∀ w ∈ wsG, w.before args s = true) {own : String} {index : Nat} (hown : s.vm.findClass own = some m.cls) (hK : Kt G s) (hW : Wh G x y H) (hS : va_S (gF G) H0 H locs) (hl : Cond.fieldLink own index "RobotCellModel" "ended" "I" ∈ wsG) {v : Int32} (hdg : decode cc pc = .ok (.putfield index, 3)) (kk : ∀ (H1 : Heap) (locs1 : List Loc), Wh G x (up4 y 40 0 0 37 v) H1 → va_S (gF G) H0 H1 locs1 → W p l e R s m args below meth c H1 locs1 cells slots Q (F0 m (pc + 3) ls rest)) : W p l e R s m args below meth c H locs cells slots Q (F0 m pc ls (.int v :: .ref (gA G 40 0 0) :: rest)) := by
  obtain ⟨q0, h0, h2⟩ := wl_get (G := G) (x := x) (y := y) (id_40)
  rw [(mm_r (by decide))] at h2
  have hs := wl_set_r (G := G) (x := x) (y := y) (s := 37) (v := v) (by decide) hW.2 h0
  refine va_put (ci := 14) (C := RX12) (T := TX12) (N := 63) (v := .int v) (ty := .int) hx hb htg inG_wsX120 tyX12 tyX12_ok nmX12 hown hK.1 hW.1 hW.2 hS q0 h2 rfl 37 (by decide) (htg _ hl) (fun _ h9 => h9) rfl (by decide +kernel) rfl rfl (Nat.le_of_ble_eq_true rfl) hdg (fun H1 locs1 hP hD hS => kk H1 locs1 ⟨?_, ?_⟩ hS)
  · rw [← hs]; exact hP
  · rw [← hs]; exact hD
theorem gf_40_38 (hx : p.tables.exec = Jvm.exec) (hb : c.code = cc) (htg : ∀ w ∈ wsG, w.before args s = true) {own : String} {index : Nat} (hown : s.vm.findClass own = some m.cls) (hK : Kt G s) (hW : Wh G x y H) (hl : Cond.fieldLink own index "RobotCellModel" "withdrawn" "I" ∈ wsG) (hdg : decode cc pc = .ok (.getfield index, 3)) (kk : W p l e R s m args below meth c H locs cells slots Q (F0 m (pc + 3) ls (.int (y 40 0 0 38) :: rest))) : W p l e R s m args below meth c H locs cells slots Q (F0 m pc ls (.ref (gA G 40 0 0) :: rest)) := by
  obtain ⟨q0, h0, h2⟩ := wl_get (G := G) (x := x) (y := y) (id_40)
  rw [(mm_r (by decide))] at h2
  exact va_get (ci := 14) (C := RX12) (T := TX12) (N := 63) (v := .int (y 40 0 0 38)) hx hb htg inG_wsX120 hown hK.1 hW.1 q0 h2 rfl 38 (by decide) (htg _ hl) (fun _ h9 => h9) rfl hdg kk
theorem pf_40_38 (hx : p.tables.exec = Jvm.exec) (hb : c.code = cc) (htg : ∀ w ∈ wsG, w.before args s = true) {own : String} {index : Nat} (hown : s.vm.findClass own = some m.cls) (hK : Kt G s) (hW : Wh G x y H) (hS : va_S (gF G) H0 H locs) (hl : Cond.fieldLink own index "RobotCellModel" "withdrawn" "I" ∈ wsG) {v : Int32} (hdg : decode cc pc = .ok (.putfield index, 3)) (kk : ∀ (H1 : Heap) (locs1 : List Loc), Wh G x (up4 y 40 0 0 38 v) H1 → va_S (gF G) H0 H1 locs1 → W p l e R s m args below meth c H1 locs1 cells slots Q (F0 m (pc + 3) ls rest)) : W p l e R s m args below meth c H locs cells slots Q (F0 m pc ls (.int v :: .ref (gA G 40 0 0) :: rest)) := by
  obtain ⟨q0, h0, h2⟩ := wl_get (G := G) (x := x) (y := y) (id_40)
  rw [(mm_r (by decide))] at h2
  have hs := wl_set_r (G := G) (x := x) (y := y) (s := 38) (v := v) (by decide) hW.2 h0
  refine va_put (ci := 14) (C := RX12) (T := TX12) (N := 63) (v := .int v) (ty := .int) hx hb htg inG_wsX120 tyX12 tyX12_ok nmX12 hown hK.1 hW.1 hW.2 hS q0 h2 rfl 38 (by decide) (htg _ hl) (fun _ h9 => h9) rfl (by decide +kernel) rfl rfl (Nat.le_of_ble_eq_true rfl) hdg (fun H1 locs1 hP hD hS => kk H1 locs1 ⟨?_, ?_⟩ hS)
  · rw [← hs]; exact hP
  · rw [← hs]; exact hD
theorem gf_40_39 (hx : p.tables.exec = Jvm.exec) (hb : c.code = cc) (htg : ∀ w ∈ wsG, w.before args s = true) {own : String} {index : Nat} (hown : s.vm.findClass own = some m.cls) (hK : Kt G s) (hW : Wh G x y H) (hl : Cond.fieldLink own index "RobotCellModel" "durations" "I" ∈ wsG) (hdg : decode cc pc = .ok (.getfield index, 3)) (kk : W p l e R s m args below meth c H locs cells slots Q (F0 m (pc + 3) ls (.int (y 40 0 0 39) :: rest))) : W p l e R s m args below meth c H locs cells slots Q (F0 m pc ls (.ref (gA G 40 0 0) :: rest)) := by
  obtain ⟨q0, h0, h2⟩ := wl_get (G := G) (x := x) (y := y) (id_40)
  rw [(mm_r (by decide))] at h2
  exact va_get (ci := 14) (C := RX12) (T := TX12) (N := 63) (v := .int (y 40 0 0 39)) hx hb htg inG_wsX120 hown hK.1 hW.1 q0 h2 rfl 39 (by decide) (htg _ hl) (fun _ h9 => h9) rfl hdg kk
theorem pf_40_39 (hx : p.tables.exec = Jvm.exec) (hb : c.code = cc) (htg : ∀ w ∈ wsG, w.before args s = true) {own : String} {index : Nat} (hown : s.vm.findClass own = some m.cls) (hK : Kt G s) (hW : Wh G x y H) (hS : va_S (gF G) H0 H locs) (hl : Cond.fieldLink own index "RobotCellModel" "durations" "I" ∈ wsG) {v : Int32} (hdg : decode cc pc = .ok (.putfield index, 3)) (kk : ∀ (H1 : Heap) (locs1 : List Loc), Wh G x (up4 y 40 0 0 39 v) H1 → va_S (gF G) H0 H1 locs1 → W p l e R s m args below meth c H1 locs1 cells slots Q (F0 m (pc + 3) ls rest)) : W p l e R s m args below meth c H locs cells slots Q (F0 m pc ls (.int v :: .ref (gA G 40 0 0) :: rest)) := by
  obtain ⟨q0, h0, h2⟩ := wl_get (G := G) (x := x) (y := y) (id_40)
  rw [(mm_r (by decide))] at h2
  have hs := wl_set_r (G := G) (x := x) (y := y) (s := 39) (v := v) (by decide) hW.2 h0
  refine va_put (ci := 14) (C := RX12) (T := TX12) (N := 63) (v := .int v) (ty := .int) hx hb htg inG_wsX120 tyX12 tyX12_ok nmX12 hown hK.1 hW.1 hW.2 hS q0 h2 rfl 39 (by decide) (htg _ hl) (fun _ h9 => h9) rfl (by decide +kernel) rfl rfl (Nat.le_of_ble_eq_true rfl) hdg (fun H1 locs1 hP hD hS => kk H1 locs1 ⟨?_, ?_⟩ hS)
  · rw [← hs]; exact hP
  · rw [← hs]; exact hD
theorem gf_40_40 (hx : p.tables.exec = Jvm.exec) (hb : c.code = cc) (htg : ∀ w ∈ wsG, w.before args s = true) {own : String} {index : Nat} (hown : s.vm.findClass own = some m.cls) (hK : Kt G s) (hW : Wh G x y H) (hl : Cond.fieldLink own index "RobotCellModel" "logMany" "I" ∈ wsG) (hdg : decode cc pc = .ok (.getfield index, 3)) (kk : W p l e R s m args below meth c H locs cells slots Q (F0 m (pc + 3) ls (.int (y 40 0 0 40) :: rest))) : W p l e R s m args below meth c H locs cells slots Q (F0 m pc ls (.ref (gA G 40 0 0) :: rest)) := by
  obtain ⟨q0, h0, h2⟩ := wl_get (G := G) (x := x) (y := y) (id_40)
  rw [(mm_r (by decide))] at h2
  exact va_get (ci := 14) (C := RX12) (T := TX12) (N := 63) (v := .int (y 40 0 0 40)) hx hb htg inG_wsX120 hown hK.1 hW.1 q0 h2 rfl 40 (by decide) (htg _ hl) (fun _ h9 => h9) rfl hdg kk
theorem pf_40_40 (hx : p.tables.exec = Jvm.exec) (hb : c.code = cc) (htg : ∀ w ∈ wsG, w.before args s = true) {own : String} {index : Nat} (hown : s.vm.findClass own = some m.cls) (hK : Kt G s) (hW : Wh G x y H) (hS : va_S (gF G) H0 H locs) (hl : Cond.fieldLink own index "RobotCellModel" "logMany" "I" ∈ wsG) {v : Int32} (hdg : decode cc pc = .ok (.putfield index, 3)) (kk : ∀ (H1 : Heap) (locs1 : List Loc), Wh G x (up4 y 40 0 0 40 v) H1 → va_S (gF G) H0 H1 locs1 → W p l e R s m args below meth c H1 locs1 cells slots Q (F0 m (pc + 3) ls rest)) : W p l e R s m args below meth c H locs cells slots Q (F0 m pc ls (.int v :: .ref (gA G 40 0 0) :: rest)) := by
  obtain ⟨q0, h0, h2⟩ := wl_get (G := G) (x := x) (y := y) (id_40)
  rw [(mm_r (by decide))] at h2
  have hs := wl_set_r (G := G) (x := x) (y := y) (s := 40) (v := v) (by decide) hW.2 h0
  refine va_put (ci := 14) (C := RX12) (T := TX12) (N := 63) (v := .int v) (ty := .int) hx hb htg inG_wsX120 tyX12 tyX12_ok nmX12 hown hK.1 hW.1 hW.2 hS q0 h2 rfl 40 (by decide) (htg _ hl) (fun _ h9 => h9) rfl (by decide +kernel) rfl rfl (Nat.le_of_ble_eq_true rfl) hdg (fun H1 locs1 hP hD hS => kk H1 locs1 ⟨?_, ?_⟩ hS)
  · rw [← hs]; exact hP
  · rw [← hs]; exact hD
theorem gf_40_41 (hx : p.tables.exec = Jvm.exec) (hb : c.code = cc) (htg : ∀ w ∈ wsG, w.before args s = true) {own : String} {index : Nat} (hown : s.vm.findClass own = some m.cls) (hK : Kt G s) (hW : Wh G x y H) (hl : Cond.fieldLink own index "RobotCellModel" "heldBy" "[I" ∈ wsG) (hdg : decode cc pc = .ok (.getfield index, 3)) (kk : W p l e R s m args below meth c H locs cells slots Q (F0 m (pc + 3) ls (.ref (gA G 141 0 0) :: rest))) : W p l e R s m args below meth c H locs cells slots Q (F0 m pc ls (.ref (gA G 40 0 0) :: rest)) := by
  obtain ⟨q0, h0, h2⟩ := wl_get (G := G) (x := x) (y := y) (id_40)
  rw [(mm_r (by decide))] at h2
  exact va_get (ci := 14) (C := RX12) (T := TX12) (N := 63) (v := .ref (gA G 141 0 0)) hx hb htg inG_wsX120 hown hK.1 hW.1 q0 h2 rfl 41 (by decide) (htg _ hl) (fun _ h9 => h9) rfl hdg kk
theorem gf_40_42 (hx : p.tables.exec = Jvm.exec) (hb : c.code = cc) (htg : ∀ w ∈ wsG, w.before args s = true) {own : String} {index : Nat} (hown : s.vm.findClass own = some m.cls) (hK : Kt G s) (hW : Wh G x y H) (hl : Cond.fieldLink own index "RobotCellModel" "jobOf" "[I" ∈ wsG) (hdg : decode cc pc = .ok (.getfield index, 3)) (kk : W p l e R s m args below meth c H locs cells slots Q (F0 m (pc + 3) ls (.ref (gA G 142 0 0) :: rest))) : W p l e R s m args below meth c H locs cells slots Q (F0 m pc ls (.ref (gA G 40 0 0) :: rest)) := by
  obtain ⟨q0, h0, h2⟩ := wl_get (G := G) (x := x) (y := y) (id_40)
  rw [(mm_r (by decide))] at h2
  exact va_get (ci := 14) (C := RX12) (T := TX12) (N := 63) (v := .ref (gA G 142 0 0)) hx hb htg inG_wsX120 hown hK.1 hW.1 q0 h2 rfl 42 (by decide) (htg _ hl) (fun _ h9 => h9) rfl hdg kk
theorem gf_40_43 (hx : p.tables.exec = Jvm.exec) (hb : c.code = cc) (htg : ∀ w ∈ wsG, w.before args s = true) {own : String} {index : Nat} (hown : s.vm.findClass own = some m.cls) (hK : Kt G s) (hW : Wh G x y H) (hl : Cond.fieldLink own index "RobotCellModel" "firstOf" "[I" ∈ wsG) (hdg : decode cc pc = .ok (.getfield index, 3)) (kk : W p l e R s m args below meth c H locs cells slots Q (F0 m (pc + 3) ls (.ref (gA G 143 0 0) :: rest))) : W p l e R s m args below meth c H locs cells slots Q (F0 m pc ls (.ref (gA G 40 0 0) :: rest)) := by
  obtain ⟨q0, h0, h2⟩ := wl_get (G := G) (x := x) (y := y) (id_40)
  rw [(mm_r (by decide))] at h2
  exact va_get (ci := 14) (C := RX12) (T := TX12) (N := 63) (v := .ref (gA G 143 0 0)) hx hb htg inG_wsX120 hown hK.1 hW.1 q0 h2 rfl 43 (by decide) (htg _ hl) (fun _ h9 => h9) rfl hdg kk
theorem gf_40_44 (hx : p.tables.exec = Jvm.exec) (hb : c.code = cc) (htg : ∀ w ∈ wsG, w.before args s = true) {own : String} {index : Nat} (hown : s.vm.findClass own = some m.cls) (hK : Kt G s) (hW : Wh G x y H) (hl : Cond.fieldLink own index "RobotCellModel" "reasonNow" "I" ∈ wsG) (hdg : decode cc pc = .ok (.getfield index, 3)) (kk : W p l e R s m args below meth c H locs cells slots Q (F0 m (pc + 3) ls (.int (y 40 0 0 44) :: rest))) : W p l e R s m args below meth c H locs cells slots Q (F0 m pc ls (.ref (gA G 40 0 0) :: rest)) := by
  obtain ⟨q0, h0, h2⟩ := wl_get (G := G) (x := x) (y := y) (id_40)
  rw [(mm_r (by decide))] at h2
  exact va_get (ci := 14) (C := RX12) (T := TX12) (N := 63) (v := .int (y 40 0 0 44)) hx hb htg inG_wsX120 hown hK.1 hW.1 q0 h2 rfl 44 (by decide) (htg _ hl) (fun _ h9 => h9) rfl hdg kk
theorem pf_40_44 (hx : p.tables.exec = Jvm.exec) (hb : c.code = cc) (htg : ∀ w ∈ wsG, w.before args s = true) {own : String} {index : Nat} (hown : s.vm.findClass own = some m.cls) (hK : Kt G s) (hW : Wh G x y H) (hS : va_S (gF G) H0 H locs) (hl : Cond.fieldLink own index "RobotCellModel" "reasonNow" "I" ∈ wsG) {v : Int32} (hdg : decode cc pc = .ok (.putfield index, 3)) (kk : ∀ (H1 : Heap) (locs1 : List Loc), Wh G x (up4 y 40 0 0 44 v) H1 → va_S (gF G) H0 H1 locs1 → W p l e R s m args below meth c H1 locs1 cells slots Q (F0 m (pc + 3) ls rest)) : W p l e R s m args below meth c H locs cells slots Q (F0 m pc ls (.int v :: .ref (gA G 40 0 0) :: rest)) := by
  obtain ⟨q0, h0, h2⟩ := wl_get (G := G) (x := x) (y := y) (id_40)
  rw [(mm_r (by decide))] at h2
  have hs := wl_set_r (G := G) (x := x) (y := y) (s := 44) (v := v) (by decide) hW.2 h0
  refine va_put (ci := 14) (C := RX12) (T := TX12) (N := 63) (v := .int v) (ty := .int) hx hb htg inG_wsX120 tyX12 tyX12_ok nmX12 hown hK.1 hW.1 hW.2 hS q0 h2 rfl 44 (by decide) (htg _ hl) (fun _ h9 => h9) rfl (by decide +kernel) rfl rfl (Nat.le_of_ble_eq_true rfl) hdg (fun H1 locs1 hP hD hS => kk H1 locs1 ⟨?_, ?_⟩ hS)
  · rw [← hs]; exact hP
  · rw [← hs]; exact hD
theorem gf_40_45 (hx : p.tables.exec = Jvm.exec) (hb : c.code = cc) (htg : ∀ w ∈ wsG, w.before args s = true) {own : String} {index : Nat} (hown : s.vm.findClass own = some m.cls) (hK : Kt G s) (hW : Wh G x y H) (hl : Cond.fieldLink own index "RobotCellModel" "detailNow" "I" ∈ wsG) (hdg : decode cc pc = .ok (.getfield index, 3)) (kk : W p l e R s m args below meth c H locs cells slots Q (F0 m (pc + 3) ls (.int (y 40 0 0 45) :: rest))) : W p l e R s m args below meth c H locs cells slots Q (F0 m pc ls (.ref (gA G 40 0 0) :: rest)) := by
  obtain ⟨q0, h0, h2⟩ := wl_get (G := G) (x := x) (y := y) (id_40)
  rw [(mm_r (by decide))] at h2
  exact va_get (ci := 14) (C := RX12) (T := TX12) (N := 63) (v := .int (y 40 0 0 45)) hx hb htg inG_wsX120 hown hK.1 hW.1 q0 h2 rfl 45 (by decide) (htg _ hl) (fun _ h9 => h9) rfl hdg kk
theorem pf_40_45 (hx : p.tables.exec = Jvm.exec) (hb : c.code = cc) (htg : ∀ w ∈ wsG, w.before args s = true) {own : String} {index : Nat} (hown : s.vm.findClass own = some m.cls) (hK : Kt G s) (hW : Wh G x y H) (hS : va_S (gF G) H0 H locs) (hl : Cond.fieldLink own index "RobotCellModel" "detailNow" "I" ∈ wsG) {v : Int32} (hdg : decode cc pc = .ok (.putfield index, 3)) (kk : ∀ (H1 : Heap) (locs1 : List Loc), Wh G x (up4 y 40 0 0 45 v) H1 → va_S (gF G) H0 H1 locs1 → W p l e R s m args below meth c H1 locs1 cells slots Q (F0 m (pc + 3) ls rest)) : W p l e R s m args below meth c H locs cells slots Q (F0 m pc ls (.int v :: .ref (gA G 40 0 0) :: rest)) := by
  obtain ⟨q0, h0, h2⟩ := wl_get (G := G) (x := x) (y := y) (id_40)
  rw [(mm_r (by decide))] at h2
  have hs := wl_set_r (G := G) (x := x) (y := y) (s := 45) (v := v) (by decide) hW.2 h0
  refine va_put (ci := 14) (C := RX12) (T := TX12) (N := 63) (v := .int v) (ty := .int) hx hb htg inG_wsX120 tyX12 tyX12_ok nmX12 hown hK.1 hW.1 hW.2 hS q0 h2 rfl 45 (by decide) (htg _ hl) (fun _ h9 => h9) rfl (by decide +kernel) rfl rfl (Nat.le_of_ble_eq_true rfl) hdg (fun H1 locs1 hP hD hS => kk H1 locs1 ⟨?_, ?_⟩ hS)
  · rw [← hs]; exact hP
  · rw [← hs]; exact hD
theorem gf_40_46 (hx : p.tables.exec = Jvm.exec) (hb : c.code = cc) (htg : ∀ w ∈ wsG, w.before args s = true) {own : String} {index : Nat} (hown : s.vm.findClass own = some m.cls) (hK : Kt G s) (hW : Wh G x y H) (hl : Cond.fieldLink own index "RobotCellModel" "isRefusedNow" "Z" ∈ wsG) (hdg : decode cc pc = .ok (.getfield index, 3)) (kk : W p l e R s m args below meth c H locs cells slots Q (F0 m (pc + 3) ls (.int (y 40 0 0 46) :: rest))) : W p l e R s m args below meth c H locs cells slots Q (F0 m pc ls (.ref (gA G 40 0 0) :: rest)) := by
  obtain ⟨q0, h0, h2⟩ := wl_get (G := G) (x := x) (y := y) (id_40)
  rw [(mm_r (by decide))] at h2
  exact va_get (ci := 14) (C := RX12) (T := TX12) (N := 63) (v := .int (y 40 0 0 46)) hx hb htg inG_wsX120 hown hK.1 hW.1 q0 h2 rfl 46 (by decide) (htg _ hl) (fun _ h9 => h9) rfl hdg kk
theorem pf_40_46 (hx : p.tables.exec = Jvm.exec) (hb : c.code = cc) (htg : ∀ w ∈ wsG, w.before args s = true) {own : String} {index : Nat} (hown : s.vm.findClass own = some m.cls) (hK : Kt G s) (hW : Wh G x y H) (hS : va_S (gF G) H0 H locs) (hl : Cond.fieldLink own index "RobotCellModel" "isRefusedNow" "Z" ∈ wsG) {v : Int32} (hv : isB v = true) (hdg : decode cc pc = .ok (.putfield index, 3)) (kk : ∀ (H1 : Heap) (locs1 : List Loc), Wh G x (up4 y 40 0 0 46 v) H1 → va_S (gF G) H0 H1 locs1 → W p l e R s m args below meth c H1 locs1 cells slots Q (F0 m (pc + 3) ls rest)) : W p l e R s m args below meth c H locs cells slots Q (F0 m pc ls (.int v :: .ref (gA G 40 0 0) :: rest)) := by
  obtain ⟨q0, h0, h2⟩ := wl_get (G := G) (x := x) (y := y) (id_40)
  rw [(mm_r (by decide))] at h2
  have hs := wl_set_r (G := G) (x := x) (y := y) (s := 46) (v := v) (by decide) hW.2 h0
  refine va_put (ci := 14) (C := RX12) (T := TX12) (N := 63) (v := .int v) (ty := .boolean) hx hb htg inG_wsX120 tyX12 tyX12_ok nmX12 hown hK.1 hW.1 hW.2 hS q0 h2 rfl 46 (by decide) (htg _ hl) (fun _ h9 => h9) rfl (by decide +kernel) (isB_n hv) (isB_f hv) (Nat.le_of_ble_eq_true rfl) hdg (fun H1 locs1 hP hD hS => kk H1 locs1 ⟨?_, ?_⟩ hS)
  · rw [← hs]; exact hP
  · rw [← hs]; exact hD
theorem gf_40_47 (hx : p.tables.exec = Jvm.exec) (hb : c.code = cc) (htg : ∀ w ∈ wsG, w.before args s = true) {own : String} {index : Nat} (hown : s.vm.findClass own = some m.cls) (hK : Kt G s) (hW : Wh G x y H) (hl : Cond.fieldLink own index "RobotCellModel" "turn" "[I" ∈ wsG) (hdg : decode cc pc = .ok (.getfield index, 3)) (kk : W p l e R s m args below meth c H locs cells slots Q (F0 m (pc + 3) ls (.ref (gA G 147 0 0) :: rest))) : W p l e R s m args below meth c H locs cells slots Q (F0 m pc ls (.ref (gA G 40 0 0) :: rest)) := by
  obtain ⟨q0, h0, h2⟩ := wl_get (G := G) (x := x) (y := y) (id_40)
  rw [(mm_r (by decide))] at h2
  exact va_get (ci := 14) (C := RX12) (T := TX12) (N := 63) (v := .ref (gA G 147 0 0)) hx hb htg inG_wsX120 hown hK.1 hW.1 q0 h2 rfl 47 (by decide) (htg _ hl) (fun _ h9 => h9) rfl hdg kk
theorem gf_40_48 (hx : p.tables.exec = Jvm.exec) (hb : c.code = cc) (htg : ∀ w ∈ wsG, w.before args s = true) {own : String} {index : Nat} (hown : s.vm.findClass own = some m.cls) (hK : Kt G s) (hW : Wh G x y H) (hl : Cond.fieldLink own index "RobotCellModel" "text" "[I" ∈ wsG) (hdg : decode cc pc = .ok (.getfield index, 3)) (kk : W p l e R s m args below meth c H locs cells slots Q (F0 m (pc + 3) ls (.ref (gA G 148 0 0) :: rest))) : W p l e R s m args below meth c H locs cells slots Q (F0 m pc ls (.ref (gA G 40 0 0) :: rest)) := by
  obtain ⟨q0, h0, h2⟩ := wl_get (G := G) (x := x) (y := y) (id_40)
  rw [(mm_r (by decide))] at h2
  exact va_get (ci := 14) (C := RX12) (T := TX12) (N := 63) (v := .ref (gA G 148 0 0)) hx hb htg inG_wsX120 hown hK.1 hW.1 q0 h2 rfl 48 (by decide) (htg _ hl) (fun _ h9 => h9) rfl hdg kk
theorem gf_40_49 (hx : p.tables.exec = Jvm.exec) (hb : c.code = cc) (htg : ∀ w ∈ wsG, w.before args s = true) {own : String} {index : Nat} (hown : s.vm.findClass own = some m.cls) (hK : Kt G s) (hW : Wh G x y H) (hl : Cond.fieldLink own index "RobotCellModel" "kind" "[I" ∈ wsG) (hdg : decode cc pc = .ok (.getfield index, 3)) (kk : W p l e R s m args below meth c H locs cells slots Q (F0 m (pc + 3) ls (.ref (gA G 149 0 0) :: rest))) : W p l e R s m args below meth c H locs cells slots Q (F0 m pc ls (.ref (gA G 40 0 0) :: rest)) := by
  obtain ⟨q0, h0, h2⟩ := wl_get (G := G) (x := x) (y := y) (id_40)
  rw [(mm_r (by decide))] at h2
  exact va_get (ci := 14) (C := RX12) (T := TX12) (N := 63) (v := .ref (gA G 149 0 0)) hx hb htg inG_wsX120 hown hK.1 hW.1 q0 h2 rfl 49 (by decide) (htg _ hl) (fun _ h9 => h9) rfl hdg kk
theorem gf_40_50 (hx : p.tables.exec = Jvm.exec) (hb : c.code = cc) (htg : ∀ w ∈ wsG, w.before args s = true) {own : String} {index : Nat} (hown : s.vm.findClass own = some m.cls) (hK : Kt G s) (hW : Wh G x y H) (hl : Cond.fieldLink own index "RobotCellModel" "number" "[I" ∈ wsG) (hdg : decode cc pc = .ok (.getfield index, 3)) (kk : W p l e R s m args below meth c H locs cells slots Q (F0 m (pc + 3) ls (.ref (gA G 150 0 0) :: rest))) : W p l e R s m args below meth c H locs cells slots Q (F0 m pc ls (.ref (gA G 40 0 0) :: rest)) := by
  obtain ⟨q0, h0, h2⟩ := wl_get (G := G) (x := x) (y := y) (id_40)
  rw [(mm_r (by decide))] at h2
  exact va_get (ci := 14) (C := RX12) (T := TX12) (N := 63) (v := .ref (gA G 150 0 0)) hx hb htg inG_wsX120 hown hK.1 hW.1 q0 h2 rfl 50 (by decide) (htg _ hl) (fun _ h9 => h9) rfl hdg kk
theorem gf_40_51 (hx : p.tables.exec = Jvm.exec) (hb : c.code = cc) (htg : ∀ w ∈ wsG, w.before args s = true) {own : String} {index : Nat} (hown : s.vm.findClass own = some m.cls) (hK : Kt G s) (hW : Wh G x y H) (hl : Cond.fieldLink own index "RobotCellModel" "length" "I" ∈ wsG) (hdg : decode cc pc = .ok (.getfield index, 3)) (kk : W p l e R s m args below meth c H locs cells slots Q (F0 m (pc + 3) ls (.int (y 40 0 0 51) :: rest))) : W p l e R s m args below meth c H locs cells slots Q (F0 m pc ls (.ref (gA G 40 0 0) :: rest)) := by
  obtain ⟨q0, h0, h2⟩ := wl_get (G := G) (x := x) (y := y) (id_40)
  rw [(mm_r (by decide))] at h2
  exact va_get (ci := 14) (C := RX12) (T := TX12) (N := 63) (v := .int (y 40 0 0 51)) hx hb htg inG_wsX120 hown hK.1 hW.1 q0 h2 rfl 51 (by decide) (htg _ hl) (fun _ h9 => h9) rfl hdg kk
theorem pf_40_51 (hx : p.tables.exec = Jvm.exec) (hb : c.code = cc) (htg : ∀ w ∈ wsG, w.before args s = true) {own : String} {index : Nat} (hown : s.vm.findClass own = some m.cls) (hK : Kt G s) (hW : Wh G x y H) (hS : va_S (gF G) H0 H locs) (hl : Cond.fieldLink own index "RobotCellModel" "length" "I" ∈ wsG) {v : Int32} (hdg : decode cc pc = .ok (.putfield index, 3)) (kk : ∀ (H1 : Heap) (locs1 : List Loc), Wh G x (up4 y 40 0 0 51 v) H1 → va_S (gF G) H0 H1 locs1 → W p l e R s m args below meth c H1 locs1 cells slots Q (F0 m (pc + 3) ls rest)) : W p l e R s m args below meth c H locs cells slots Q (F0 m pc ls (.int v :: .ref (gA G 40 0 0) :: rest)) := by
  obtain ⟨q0, h0, h2⟩ := wl_get (G := G) (x := x) (y := y) (id_40)
  rw [(mm_r (by decide))] at h2
  have hs := wl_set_r (G := G) (x := x) (y := y) (s := 51) (v := v) (by decide) hW.2 h0
  refine va_put (ci := 14) (C := RX12) (T := TX12) (N := 63) (v := .int v) (ty := .int) hx hb htg inG_wsX120 tyX12 tyX12_ok nmX12 hown hK.1 hW.1 hW.2 hS q0 h2 rfl 51 (by decide) (htg _ hl) (fun _ h9 => h9) rfl (by decide +kernel) rfl rfl (Nat.le_of_ble_eq_true rfl) hdg (fun H1 locs1 hP hD hS => kk H1 locs1 ⟨?_, ?_⟩ hS)
  · rw [← hs]; exact hP
  · rw [← hs]; exact hD
theorem gf_40_52 (hx : p.tables.exec = Jvm.exec) (hb : c.code = cc) (htg : ∀ w ∈ wsG, w.before args s = true) {own : String} {index : Nat} (hown : s.vm.findClass own = some m.cls) (hK : Kt G s) (hW : Wh G x y H) (hl : Cond.fieldLink own index "RobotCellModel" "at" "I" ∈ wsG) (hdg : decode cc pc = .ok (.getfield index, 3)) (kk : W p l e R s m args below meth c H locs cells slots Q (F0 m (pc + 3) ls (.int (y 40 0 0 52) :: rest))) : W p l e R s m args below meth c H locs cells slots Q (F0 m pc ls (.ref (gA G 40 0 0) :: rest)) := by
  obtain ⟨q0, h0, h2⟩ := wl_get (G := G) (x := x) (y := y) (id_40)
  rw [(mm_r (by decide))] at h2
  exact va_get (ci := 14) (C := RX12) (T := TX12) (N := 63) (v := .int (y 40 0 0 52)) hx hb htg inG_wsX120 hown hK.1 hW.1 q0 h2 rfl 52 (by decide) (htg _ hl) (fun _ h9 => h9) rfl hdg kk
theorem pf_40_52 (hx : p.tables.exec = Jvm.exec) (hb : c.code = cc) (htg : ∀ w ∈ wsG, w.before args s = true) {own : String} {index : Nat} (hown : s.vm.findClass own = some m.cls) (hK : Kt G s) (hW : Wh G x y H) (hS : va_S (gF G) H0 H locs) (hl : Cond.fieldLink own index "RobotCellModel" "at" "I" ∈ wsG) {v : Int32} (hdg : decode cc pc = .ok (.putfield index, 3)) (kk : ∀ (H1 : Heap) (locs1 : List Loc), Wh G x (up4 y 40 0 0 52 v) H1 → va_S (gF G) H0 H1 locs1 → W p l e R s m args below meth c H1 locs1 cells slots Q (F0 m (pc + 3) ls rest)) : W p l e R s m args below meth c H locs cells slots Q (F0 m pc ls (.int v :: .ref (gA G 40 0 0) :: rest)) := by
  obtain ⟨q0, h0, h2⟩ := wl_get (G := G) (x := x) (y := y) (id_40)
  rw [(mm_r (by decide))] at h2
  have hs := wl_set_r (G := G) (x := x) (y := y) (s := 52) (v := v) (by decide) hW.2 h0
  refine va_put (ci := 14) (C := RX12) (T := TX12) (N := 63) (v := .int v) (ty := .int) hx hb htg inG_wsX120 tyX12 tyX12_ok nmX12 hown hK.1 hW.1 hW.2 hS q0 h2 rfl 52 (by decide) (htg _ hl) (fun _ h9 => h9) rfl (by decide +kernel) rfl rfl (Nat.le_of_ble_eq_true rfl) hdg (fun H1 locs1 hP hD hS => kk H1 locs1 ⟨?_, ?_⟩ hS)
  · rw [← hs]; exact hP
  · rw [← hs]; exact hD
theorem gf_40_53 (hx : p.tables.exec = Jvm.exec) (hb : c.code = cc) (htg : ∀ w ∈ wsG, w.before args s = true) {own : String} {index : Nat} (hown : s.vm.findClass own = some m.cls) (hK : Kt G s) (hW : Wh G x y H) (hl : Cond.fieldLink own index "RobotCellModel" "commands" "I" ∈ wsG) (hdg : decode cc pc = .ok (.getfield index, 3)) (kk : W p l e R s m args below meth c H locs cells slots Q (F0 m (pc + 3) ls (.int (y 40 0 0 53) :: rest))) : W p l e R s m args below meth c H locs cells slots Q (F0 m pc ls (.ref (gA G 40 0 0) :: rest)) := by
  obtain ⟨q0, h0, h2⟩ := wl_get (G := G) (x := x) (y := y) (id_40)
  rw [(mm_r (by decide))] at h2
  exact va_get (ci := 14) (C := RX12) (T := TX12) (N := 63) (v := .int (y 40 0 0 53)) hx hb htg inG_wsX120 hown hK.1 hW.1 q0 h2 rfl 53 (by decide) (htg _ hl) (fun _ h9 => h9) rfl hdg kk
theorem pf_40_53 (hx : p.tables.exec = Jvm.exec) (hb : c.code = cc) (htg : ∀ w ∈ wsG, w.before args s = true) {own : String} {index : Nat} (hown : s.vm.findClass own = some m.cls) (hK : Kt G s) (hW : Wh G x y H) (hS : va_S (gF G) H0 H locs) (hl : Cond.fieldLink own index "RobotCellModel" "commands" "I" ∈ wsG) {v : Int32} (hdg : decode cc pc = .ok (.putfield index, 3)) (kk : ∀ (H1 : Heap) (locs1 : List Loc), Wh G x (up4 y 40 0 0 53 v) H1 → va_S (gF G) H0 H1 locs1 → W p l e R s m args below meth c H1 locs1 cells slots Q (F0 m (pc + 3) ls rest)) : W p l e R s m args below meth c H locs cells slots Q (F0 m pc ls (.int v :: .ref (gA G 40 0 0) :: rest)) := by
  obtain ⟨q0, h0, h2⟩ := wl_get (G := G) (x := x) (y := y) (id_40)
  rw [(mm_r (by decide))] at h2
  have hs := wl_set_r (G := G) (x := x) (y := y) (s := 53) (v := v) (by decide) hW.2 h0
  refine va_put (ci := 14) (C := RX12) (T := TX12) (N := 63) (v := .int v) (ty := .int) hx hb htg inG_wsX120 tyX12 tyX12_ok nmX12 hown hK.1 hW.1 hW.2 hS q0 h2 rfl 53 (by decide) (htg _ hl) (fun _ h9 => h9) rfl (by decide +kernel) rfl rfl (Nat.le_of_ble_eq_true rfl) hdg (fun H1 locs1 hP hD hS => kk H1 locs1 ⟨?_, ?_⟩ hS)
  · rw [← hs]; exact hP
  · rw [← hs]; exact hD
theorem gf_40_54 (hx : p.tables.exec = Jvm.exec) (hb : c.code = cc) (htg : ∀ w ∈ wsG, w.before args s = true) {own : String} {index : Nat} (hown : s.vm.findClass own = some m.cls) (hK : Kt G s) (hW : Wh G x y H) (hl : Cond.fieldLink own index "RobotCellModel" "digit" "I" ∈ wsG) (hdg : decode cc pc = .ok (.getfield index, 3)) (kk : W p l e R s m args below meth c H locs cells slots Q (F0 m (pc + 3) ls (.int (y 40 0 0 54) :: rest))) : W p l e R s m args below meth c H locs cells slots Q (F0 m pc ls (.ref (gA G 40 0 0) :: rest)) := by
  obtain ⟨q0, h0, h2⟩ := wl_get (G := G) (x := x) (y := y) (id_40)
  rw [(mm_r (by decide))] at h2
  exact va_get (ci := 14) (C := RX12) (T := TX12) (N := 63) (v := .int (y 40 0 0 54)) hx hb htg inG_wsX120 hown hK.1 hW.1 q0 h2 rfl 54 (by decide) (htg _ hl) (fun _ h9 => h9) rfl hdg kk
theorem pf_40_54 (hx : p.tables.exec = Jvm.exec) (hb : c.code = cc) (htg : ∀ w ∈ wsG, w.before args s = true) {own : String} {index : Nat} (hown : s.vm.findClass own = some m.cls) (hK : Kt G s) (hW : Wh G x y H) (hS : va_S (gF G) H0 H locs) (hl : Cond.fieldLink own index "RobotCellModel" "digit" "I" ∈ wsG) {v : Int32} (hdg : decode cc pc = .ok (.putfield index, 3)) (kk : ∀ (H1 : Heap) (locs1 : List Loc), Wh G x (up4 y 40 0 0 54 v) H1 → va_S (gF G) H0 H1 locs1 → W p l e R s m args below meth c H1 locs1 cells slots Q (F0 m (pc + 3) ls rest)) : W p l e R s m args below meth c H locs cells slots Q (F0 m pc ls (.int v :: .ref (gA G 40 0 0) :: rest)) := by
  obtain ⟨q0, h0, h2⟩ := wl_get (G := G) (x := x) (y := y) (id_40)
  rw [(mm_r (by decide))] at h2
  have hs := wl_set_r (G := G) (x := x) (y := y) (s := 54) (v := v) (by decide) hW.2 h0
  refine va_put (ci := 14) (C := RX12) (T := TX12) (N := 63) (v := .int v) (ty := .int) hx hb htg inG_wsX120 tyX12 tyX12_ok nmX12 hown hK.1 hW.1 hW.2 hS q0 h2 rfl 54 (by decide) (htg _ hl) (fun _ h9 => h9) rfl (by decide +kernel) rfl rfl (Nat.le_of_ble_eq_true rfl) hdg (fun H1 locs1 hP hD hS => kk H1 locs1 ⟨?_, ?_⟩ hS)
  · rw [← hs]; exact hP
  · rw [← hs]; exact hD
theorem gf_40_55 (hx : p.tables.exec = Jvm.exec) (hb : c.code = cc) (htg : ∀ w ∈ wsG, w.before args s = true) {own : String} {index : Nat} (hown : s.vm.findClass own = some m.cls) (hK : Kt G s) (hW : Wh G x y H) (hl : Cond.fieldLink own index "RobotCellModel" "earlier" "[I" ∈ wsG) (hdg : decode cc pc = .ok (.getfield index, 3)) (kk : W p l e R s m args below meth c H locs cells slots Q (F0 m (pc + 3) ls (.ref (gA G 155 0 0) :: rest))) : W p l e R s m args below meth c H locs cells slots Q (F0 m pc ls (.ref (gA G 40 0 0) :: rest)) := by
  obtain ⟨q0, h0, h2⟩ := wl_get (G := G) (x := x) (y := y) (id_40)
  rw [(mm_r (by decide))] at h2
  exact va_get (ci := 14) (C := RX12) (T := TX12) (N := 63) (v := .ref (gA G 155 0 0)) hx hb htg inG_wsX120 hown hK.1 hW.1 q0 h2 rfl 55 (by decide) (htg _ hl) (fun _ h9 => h9) rfl hdg kk
theorem gf_40_56 (hx : p.tables.exec = Jvm.exec) (hb : c.code = cc) (htg : ∀ w ∈ wsG, w.before args s = true) {own : String} {index : Nat} (hown : s.vm.findClass own = some m.cls) (hK : Kt G s) (hW : Wh G x y H) (hl : Cond.fieldLink own index "RobotCellModel" "saved" "[I" ∈ wsG) (hdg : decode cc pc = .ok (.getfield index, 3)) (kk : W p l e R s m args below meth c H locs cells slots Q (F0 m (pc + 3) ls (.ref (gA G 156 0 0) :: rest))) : W p l e R s m args below meth c H locs cells slots Q (F0 m pc ls (.ref (gA G 40 0 0) :: rest)) := by
  obtain ⟨q0, h0, h2⟩ := wl_get (G := G) (x := x) (y := y) (id_40)
  rw [(mm_r (by decide))] at h2
  exact va_get (ci := 14) (C := RX12) (T := TX12) (N := 63) (v := .ref (gA G 156 0 0)) hx hb htg inG_wsX120 hown hK.1 hW.1 q0 h2 rfl 56 (by decide) (htg _ hl) (fun _ h9 => h9) rfl hdg kk
theorem gf_40_57 (hx : p.tables.exec = Jvm.exec) (hb : c.code = cc) (htg : ∀ w ∈ wsG, w.before args s = true) {own : String} {index : Nat} (hown : s.vm.findClass own = some m.cls) (hK : Kt G s) (hW : Wh G x y H) (hl : Cond.fieldLink own index "RobotCellModel" "scratch" "[I" ∈ wsG) (hdg : decode cc pc = .ok (.getfield index, 3)) (kk : W p l e R s m args below meth c H locs cells slots Q (F0 m (pc + 3) ls (.ref (gA G 157 0 0) :: rest))) : W p l e R s m args below meth c H locs cells slots Q (F0 m pc ls (.ref (gA G 40 0 0) :: rest)) := by
  obtain ⟨q0, h0, h2⟩ := wl_get (G := G) (x := x) (y := y) (id_40)
  rw [(mm_r (by decide))] at h2
  exact va_get (ci := 14) (C := RX12) (T := TX12) (N := 63) (v := .ref (gA G 157 0 0)) hx hb htg inG_wsX120 hown hK.1 hW.1 q0 h2 rfl 57 (by decide) (htg _ hl) (fun _ h9 => h9) rfl hdg kk
theorem gf_40_58 (hx : p.tables.exec = Jvm.exec) (hb : c.code = cc) (htg : ∀ w ∈ wsG, w.before args s = true) {own : String} {index : Nat} (hown : s.vm.findClass own = some m.cls) (hK : Kt G s) (hW : Wh G x y H) (hl : Cond.fieldLink own index "RobotCellModel" "undone" "[I" ∈ wsG) (hdg : decode cc pc = .ok (.getfield index, 3)) (kk : W p l e R s m args below meth c H locs cells slots Q (F0 m (pc + 3) ls (.ref (gA G 158 0 0) :: rest))) : W p l e R s m args below meth c H locs cells slots Q (F0 m pc ls (.ref (gA G 40 0 0) :: rest)) := by
  obtain ⟨q0, h0, h2⟩ := wl_get (G := G) (x := x) (y := y) (id_40)
  rw [(mm_r (by decide))] at h2
  exact va_get (ci := 14) (C := RX12) (T := TX12) (N := 63) (v := .ref (gA G 158 0 0)) hx hb htg inG_wsX120 hown hK.1 hW.1 q0 h2 rfl 58 (by decide) (htg _ hl) (fun _ h9 => h9) rfl hdg kk
theorem gf_40_59 (hx : p.tables.exec = Jvm.exec) (hb : c.code = cc) (htg : ∀ w ∈ wsG, w.before args s = true) {own : String} {index : Nat} (hown : s.vm.findClass own = some m.cls) (hK : Kt G s) (hW : Wh G x y H) (hl : Cond.fieldLink own index "RobotCellModel" "changes" "I" ∈ wsG) (hdg : decode cc pc = .ok (.getfield index, 3)) (kk : W p l e R s m args below meth c H locs cells slots Q (F0 m (pc + 3) ls (.int (y 40 0 0 59) :: rest))) : W p l e R s m args below meth c H locs cells slots Q (F0 m pc ls (.ref (gA G 40 0 0) :: rest)) := by
  obtain ⟨q0, h0, h2⟩ := wl_get (G := G) (x := x) (y := y) (id_40)
  rw [(mm_r (by decide))] at h2
  exact va_get (ci := 14) (C := RX12) (T := TX12) (N := 63) (v := .int (y 40 0 0 59)) hx hb htg inG_wsX120 hown hK.1 hW.1 q0 h2 rfl 59 (by decide) (htg _ hl) (fun _ h9 => h9) rfl hdg kk
theorem pf_40_59 (hx : p.tables.exec = Jvm.exec) (hb : c.code = cc) (htg : ∀ w ∈ wsG, w.before args s = true) {own : String} {index : Nat} (hown : s.vm.findClass own = some m.cls) (hK : Kt G s) (hW : Wh G x y H) (hS : va_S (gF G) H0 H locs) (hl : Cond.fieldLink own index "RobotCellModel" "changes" "I" ∈ wsG) {v : Int32} (hdg : decode cc pc = .ok (.putfield index, 3)) (kk : ∀ (H1 : Heap) (locs1 : List Loc), Wh G x (up4 y 40 0 0 59 v) H1 → va_S (gF G) H0 H1 locs1 → W p l e R s m args below meth c H1 locs1 cells slots Q (F0 m (pc + 3) ls rest)) : W p l e R s m args below meth c H locs cells slots Q (F0 m pc ls (.int v :: .ref (gA G 40 0 0) :: rest)) := by
  obtain ⟨q0, h0, h2⟩ := wl_get (G := G) (x := x) (y := y) (id_40)
  rw [(mm_r (by decide))] at h2
  have hs := wl_set_r (G := G) (x := x) (y := y) (s := 59) (v := v) (by decide) hW.2 h0
  refine va_put (ci := 14) (C := RX12) (T := TX12) (N := 63) (v := .int v) (ty := .int) hx hb htg inG_wsX120 tyX12 tyX12_ok nmX12 hown hK.1 hW.1 hW.2 hS q0 h2 rfl 59 (by decide) (htg _ hl) (fun _ h9 => h9) rfl (by decide +kernel) rfl rfl (Nat.le_of_ble_eq_true rfl) hdg (fun H1 locs1 hP hD hS => kk H1 locs1 ⟨?_, ?_⟩ hS)
  · rw [← hs]; exact hP
  · rw [← hs]; exact hD
theorem gf_40_60 (hx : p.tables.exec = Jvm.exec) (hb : c.code = cc) (htg : ∀ w ∈ wsG, w.before args s = true) {own : String} {index : Nat} (hown : s.vm.findClass own = some m.cls) (hK : Kt G s) (hW : Wh G x y H) (hl : Cond.fieldLink own index "RobotCellModel" "cursor" "I" ∈ wsG) (hdg : decode cc pc = .ok (.getfield index, 3)) (kk : W p l e R s m args below meth c H locs cells slots Q (F0 m (pc + 3) ls (.int (y 40 0 0 60) :: rest))) : W p l e R s m args below meth c H locs cells slots Q (F0 m pc ls (.ref (gA G 40 0 0) :: rest)) := by
  obtain ⟨q0, h0, h2⟩ := wl_get (G := G) (x := x) (y := y) (id_40)
  rw [(mm_r (by decide))] at h2
  exact va_get (ci := 14) (C := RX12) (T := TX12) (N := 63) (v := .int (y 40 0 0 60)) hx hb htg inG_wsX120 hown hK.1 hW.1 q0 h2 rfl 60 (by decide) (htg _ hl) (fun _ h9 => h9) rfl hdg kk
theorem pf_40_60 (hx : p.tables.exec = Jvm.exec) (hb : c.code = cc) (htg : ∀ w ∈ wsG, w.before args s = true) {own : String} {index : Nat} (hown : s.vm.findClass own = some m.cls) (hK : Kt G s) (hW : Wh G x y H) (hS : va_S (gF G) H0 H locs) (hl : Cond.fieldLink own index "RobotCellModel" "cursor" "I" ∈ wsG) {v : Int32} (hdg : decode cc pc = .ok (.putfield index, 3)) (kk : ∀ (H1 : Heap) (locs1 : List Loc), Wh G x (up4 y 40 0 0 60 v) H1 → va_S (gF G) H0 H1 locs1 → W p l e R s m args below meth c H1 locs1 cells slots Q (F0 m (pc + 3) ls rest)) : W p l e R s m args below meth c H locs cells slots Q (F0 m pc ls (.int v :: .ref (gA G 40 0 0) :: rest)) := by
  obtain ⟨q0, h0, h2⟩ := wl_get (G := G) (x := x) (y := y) (id_40)
  rw [(mm_r (by decide))] at h2
  have hs := wl_set_r (G := G) (x := x) (y := y) (s := 60) (v := v) (by decide) hW.2 h0
  refine va_put (ci := 14) (C := RX12) (T := TX12) (N := 63) (v := .int v) (ty := .int) hx hb htg inG_wsX120 tyX12 tyX12_ok nmX12 hown hK.1 hW.1 hW.2 hS q0 h2 rfl 60 (by decide) (htg _ hl) (fun _ h9 => h9) rfl (by decide +kernel) rfl rfl (Nat.le_of_ble_eq_true rfl) hdg (fun H1 locs1 hP hD hS => kk H1 locs1 ⟨?_, ?_⟩ hS)
  · rw [← hs]; exact hP
  · rw [← hs]; exact hD
theorem gf_40_61 (hx : p.tables.exec = Jvm.exec) (hb : c.code = cc) (htg : ∀ w ∈ wsG, w.before args s = true) {own : String} {index : Nat} (hown : s.vm.findClass own = some m.cls) (hK : Kt G s) (hW : Wh G x y H) (hl : Cond.fieldLink own index "RobotCellModel" "isSaved" "Z" ∈ wsG) (hdg : decode cc pc = .ok (.getfield index, 3)) (kk : W p l e R s m args below meth c H locs cells slots Q (F0 m (pc + 3) ls (.int (y 40 0 0 61) :: rest))) : W p l e R s m args below meth c H locs cells slots Q (F0 m pc ls (.ref (gA G 40 0 0) :: rest)) := by
  obtain ⟨q0, h0, h2⟩ := wl_get (G := G) (x := x) (y := y) (id_40)
  rw [(mm_r (by decide))] at h2
  exact va_get (ci := 14) (C := RX12) (T := TX12) (N := 63) (v := .int (y 40 0 0 61)) hx hb htg inG_wsX120 hown hK.1 hW.1 q0 h2 rfl 61 (by decide) (htg _ hl) (fun _ h9 => h9) rfl hdg kk
theorem pf_40_61 (hx : p.tables.exec = Jvm.exec) (hb : c.code = cc) (htg : ∀ w ∈ wsG, w.before args s = true) {own : String} {index : Nat} (hown : s.vm.findClass own = some m.cls) (hK : Kt G s) (hW : Wh G x y H) (hS : va_S (gF G) H0 H locs) (hl : Cond.fieldLink own index "RobotCellModel" "isSaved" "Z" ∈ wsG) {v : Int32} (hv : isB v = true) (hdg : decode cc pc = .ok (.putfield index, 3)) (kk : ∀ (H1 : Heap) (locs1 : List Loc), Wh G x (up4 y 40 0 0 61 v) H1 → va_S (gF G) H0 H1 locs1 → W p l e R s m args below meth c H1 locs1 cells slots Q (F0 m (pc + 3) ls rest)) : W p l e R s m args below meth c H locs cells slots Q (F0 m pc ls (.int v :: .ref (gA G 40 0 0) :: rest)) := by
  obtain ⟨q0, h0, h2⟩ := wl_get (G := G) (x := x) (y := y) (id_40)
  rw [(mm_r (by decide))] at h2
  have hs := wl_set_r (G := G) (x := x) (y := y) (s := 61) (v := v) (by decide) hW.2 h0
  refine va_put (ci := 14) (C := RX12) (T := TX12) (N := 63) (v := .int v) (ty := .boolean) hx hb htg inG_wsX120 tyX12 tyX12_ok nmX12 hown hK.1 hW.1 hW.2 hS q0 h2 rfl 61 (by decide) (htg _ hl) (fun _ h9 => h9) rfl (by decide +kernel) (isB_n hv) (isB_f hv) (Nat.le_of_ble_eq_true rfl) hdg (fun H1 locs1 hP hD hS => kk H1 locs1 ⟨?_, ?_⟩ hS)
  · rw [← hs]; exact hP
  · rw [← hs]; exact hD
theorem gf_40_62 (hx : p.tables.exec = Jvm.exec) (hb : c.code = cc) (htg : ∀ w ∈ wsG, w.before args s = true) {own : String} {index : Nat} (hown : s.vm.findClass own = some m.cls) (hK : Kt G s) (hW : Wh G x y H) (hl : Cond.fieldLink own index "RobotCellModel" "isKeeping" "Z" ∈ wsG) (hdg : decode cc pc = .ok (.getfield index, 3)) (kk : W p l e R s m args below meth c H locs cells slots Q (F0 m (pc + 3) ls (.int (y 40 0 0 62) :: rest))) : W p l e R s m args below meth c H locs cells slots Q (F0 m pc ls (.ref (gA G 40 0 0) :: rest)) := by
  obtain ⟨q0, h0, h2⟩ := wl_get (G := G) (x := x) (y := y) (id_40)
  rw [(mm_r (by decide))] at h2
  exact va_get (ci := 14) (C := RX12) (T := TX12) (N := 63) (v := .int (y 40 0 0 62)) hx hb htg inG_wsX120 hown hK.1 hW.1 q0 h2 rfl 62 (by decide) (htg _ hl) (fun _ h9 => h9) rfl hdg kk
theorem pf_40_62 (hx : p.tables.exec = Jvm.exec) (hb : c.code = cc) (htg : ∀ w ∈ wsG, w.before args s = true) {own : String} {index : Nat} (hown : s.vm.findClass own = some m.cls) (hK : Kt G s) (hW : Wh G x y H) (hS : va_S (gF G) H0 H locs) (hl : Cond.fieldLink own index "RobotCellModel" "isKeeping" "Z" ∈ wsG) {v : Int32} (hv : isB v = true) (hdg : decode cc pc = .ok (.putfield index, 3)) (kk : ∀ (H1 : Heap) (locs1 : List Loc), Wh G x (up4 y 40 0 0 62 v) H1 → va_S (gF G) H0 H1 locs1 → W p l e R s m args below meth c H1 locs1 cells slots Q (F0 m (pc + 3) ls rest)) : W p l e R s m args below meth c H locs cells slots Q (F0 m pc ls (.int v :: .ref (gA G 40 0 0) :: rest)) := by
  obtain ⟨q0, h0, h2⟩ := wl_get (G := G) (x := x) (y := y) (id_40)
  rw [(mm_r (by decide))] at h2
  have hs := wl_set_r (G := G) (x := x) (y := y) (s := 62) (v := v) (by decide) hW.2 h0
  refine va_put (ci := 14) (C := RX12) (T := TX12) (N := 63) (v := .int v) (ty := .boolean) hx hb htg inG_wsX120 tyX12 tyX12_ok nmX12 hown hK.1 hW.1 hW.2 hS q0 h2 rfl 62 (by decide) (htg _ hl) (fun _ h9 => h9) rfl (by decide +kernel) (isB_n hv) (isB_f hv) (Nat.le_of_ble_eq_true rfl) hdg (fun H1 locs1 hP hD hS => kk H1 locs1 ⟨?_, ?_⟩ hS)
  · rw [← hs]; exact hP
  · rw [← hs]; exact hD
theorem rc_40 (hK : Kt G s) (hW : Wh G x y H) : ∃ cell : Cell, H[(gA G 40 0 0)]? = some cell ∧ cell.vm.isStatics = false ∧ s.vm.findClass RX12 = some cell.cls := by
  obtain ⟨q0, h0, h2⟩ := wl_get (G := G) (x := x) (y := y) (id_40)
  exact va_recv hK.1 hW.1 (ci := 14) (q := (RX12, TX12, 63)) rfl h2
theorem al_101 (hx : p.tables.exec = Jvm.exec) (hb : c.code = cc) (hK : Kt G s) (hW : Wh G x y H) {i : Int32} (hin : vp_in i 8) (hdg : decode cc pc = .ok (.iaload, 1)) (kk : W p l e R s m args below meth c H locs cells slots Q (F0 m (pc + 1) ls (.int (y 101 0 0 i.toNatClampNeg) :: rest))) : W p l e R s m args below meth c H locs cells slots Q (F0 m pc ls (.int i :: .ref (gA G 101 0 0) :: rest)) := by
  obtain ⟨q0, h0, h2⟩ := wl_get (G := G) (x := x) (y := y) (id_101)
  rw [(mm_r (by decide))] at h2
  exact va_iald hx hb hK.1 hW.1 q0 0 h2 rfl hin hdg kk
theorem as_101 (hx : p.tables.exec = Jvm.exec) (hb : c.code = cc) (hK : Kt G s) (hW : Wh G x y H) (hS : va_S (gF G) H0 H locs) {i v : Int32} (hin : vp_in i 8) (hdg : decode cc pc = .ok (.iastore, 1)) (kk : ∀ (H1 : Heap) (locs1 : List Loc), Wh G x (up4 y 101 0 0 i.toNatClampNeg v) H1 → va_S (gF G) H0 H1 locs1 → W p l e R s m args below meth c H1 locs1 cells slots Q (F0 m (pc + 1) ls rest)) : W p l e R s m args below meth c H locs cells slots Q (F0 m pc ls (.int v :: .int i :: .ref (gA G 101 0 0) :: rest)) := by
  obtain ⟨q0, h0, h2⟩ := wl_get (G := G) (x := x) (y := y) (id_101)
  rw [(mm_r (by decide))] at h2
  have hs := wl_set_r (G := G) (x := x) (y := y) (s := i.toNatClampNeg) (v := v) (by decide) hW.2 h0
  refine va_iast hx hb hK.1 hW.1 hW.2 hS q0 0 h2 rfl hin hdg (fun H1 locs1 hP hD hS => kk H1 locs1 ⟨?_, ?_⟩ hS)
  · rw [← hs]; exact hP
  · rw [← hs]; exact hD
theorem an_101 (hx : p.tables.exec = Jvm.exec) (hb : c.code = cc) (hK : Kt G s) (hW : Wh G x y H) (hdg : decode cc pc = .ok (.arraylength, 1)) (kk : W p l e R s m args below meth c H locs cells slots Q (F0 m (pc + 1) ls (.int 8 :: rest))) : W p l e R s m args below meth c H locs cells slots Q (F0 m pc ls (.ref (gA G 101 0 0) :: rest)) := by
  obtain ⟨q0, h0, h2⟩ := wl_get (G := G) (x := x) (y := y) (id_101)
  exact va_alen hx hb hK.1 hW.1 q0 0 h2 rfl rfl hdg kk
theorem al_102 (hx : p.tables.exec = Jvm.exec) (hb : c.code = cc) (hK : Kt G s) (hW : Wh G x y H) {i : Int32} (hin : vp_in i 8) (hdg : decode cc pc = .ok (.iaload, 1)) (kk : W p l e R s m args below meth c H locs cells slots Q (F0 m (pc + 1) ls (.int (y 102 0 0 i.toNatClampNeg) :: rest))) : W p l e R s m args below meth c H locs cells slots Q (F0 m pc ls (.int i :: .ref (gA G 102 0 0) :: rest)) := by
  obtain ⟨q0, h0, h2⟩ := wl_get (G := G) (x := x) (y := y) (id_102)
  rw [(mm_r (by decide))] at h2
  exact va_iald hx hb hK.1 hW.1 q0 0 h2 rfl hin hdg kk
theorem as_102 (hx : p.tables.exec = Jvm.exec) (hb : c.code = cc) (hK : Kt G s) (hW : Wh G x y H) (hS : va_S (gF G) H0 H locs) {i v : Int32} (hin : vp_in i 8) (hdg : decode cc pc = .ok (.iastore, 1)) (kk : ∀ (H1 : Heap) (locs1 : List Loc), Wh G x (up4 y 102 0 0 i.toNatClampNeg v) H1 → va_S (gF G) H0 H1 locs1 → W p l e R s m args below meth c H1 locs1 cells slots Q (F0 m (pc + 1) ls rest)) : W p l e R s m args below meth c H locs cells slots Q (F0 m pc ls (.int v :: .int i :: .ref (gA G 102 0 0) :: rest)) := by
  obtain ⟨q0, h0, h2⟩ := wl_get (G := G) (x := x) (y := y) (id_102)
  rw [(mm_r (by decide))] at h2
  have hs := wl_set_r (G := G) (x := x) (y := y) (s := i.toNatClampNeg) (v := v) (by decide) hW.2 h0
  refine va_iast hx hb hK.1 hW.1 hW.2 hS q0 0 h2 rfl hin hdg (fun H1 locs1 hP hD hS => kk H1 locs1 ⟨?_, ?_⟩ hS)
  · rw [← hs]; exact hP
  · rw [← hs]; exact hD
theorem an_102 (hx : p.tables.exec = Jvm.exec) (hb : c.code = cc) (hK : Kt G s) (hW : Wh G x y H) (hdg : decode cc pc = .ok (.arraylength, 1)) (kk : W p l e R s m args below meth c H locs cells slots Q (F0 m (pc + 1) ls (.int 8 :: rest))) : W p l e R s m args below meth c H locs cells slots Q (F0 m pc ls (.ref (gA G 102 0 0) :: rest)) := by
  obtain ⟨q0, h0, h2⟩ := wl_get (G := G) (x := x) (y := y) (id_102)
  exact va_alen hx hb hK.1 hW.1 q0 0 h2 rfl rfl hdg kk
theorem al_103 (hx : p.tables.exec = Jvm.exec) (hb : c.code = cc) (hK : Kt G s) (hW : Wh G x y H) {i : Int32} (hin : vp_in i 3) (hdg : decode cc pc = .ok (.iaload, 1)) (kk : W p l e R s m args below meth c H locs cells slots Q (F0 m (pc + 1) ls (.int (y 103 0 0 i.toNatClampNeg) :: rest))) : W p l e R s m args below meth c H locs cells slots Q (F0 m pc ls (.int i :: .ref (gA G 103 0 0) :: rest)) := by
  obtain ⟨q0, h0, h2⟩ := wl_get (G := G) (x := x) (y := y) (id_103)
  rw [(mm_r (by decide))] at h2
  exact va_iald hx hb hK.1 hW.1 q0 0 h2 rfl hin hdg kk
theorem as_103 (hx : p.tables.exec = Jvm.exec) (hb : c.code = cc) (hK : Kt G s) (hW : Wh G x y H) (hS : va_S (gF G) H0 H locs) {i v : Int32} (hin : vp_in i 3) (hdg : decode cc pc = .ok (.iastore, 1)) (kk : ∀ (H1 : Heap) (locs1 : List Loc), Wh G x (up4 y 103 0 0 i.toNatClampNeg v) H1 → va_S (gF G) H0 H1 locs1 → W p l e R s m args below meth c H1 locs1 cells slots Q (F0 m (pc + 1) ls rest)) : W p l e R s m args below meth c H locs cells slots Q (F0 m pc ls (.int v :: .int i :: .ref (gA G 103 0 0) :: rest)) := by
  obtain ⟨q0, h0, h2⟩ := wl_get (G := G) (x := x) (y := y) (id_103)
  rw [(mm_r (by decide))] at h2
  have hs := wl_set_r (G := G) (x := x) (y := y) (s := i.toNatClampNeg) (v := v) (by decide) hW.2 h0
  refine va_iast hx hb hK.1 hW.1 hW.2 hS q0 0 h2 rfl hin hdg (fun H1 locs1 hP hD hS => kk H1 locs1 ⟨?_, ?_⟩ hS)
  · rw [← hs]; exact hP
  · rw [← hs]; exact hD
theorem an_103 (hx : p.tables.exec = Jvm.exec) (hb : c.code = cc) (hK : Kt G s) (hW : Wh G x y H) (hdg : decode cc pc = .ok (.arraylength, 1)) (kk : W p l e R s m args below meth c H locs cells slots Q (F0 m (pc + 1) ls (.int 3 :: rest))) : W p l e R s m args below meth c H locs cells slots Q (F0 m pc ls (.ref (gA G 103 0 0) :: rest)) := by
  obtain ⟨q0, h0, h2⟩ := wl_get (G := G) (x := x) (y := y) (id_103)
  exact va_alen hx hb hK.1 hW.1 q0 0 h2 rfl rfl hdg kk
theorem al_104 (hx : p.tables.exec = Jvm.exec) (hb : c.code = cc) (hK : Kt G s) (hW : Wh G x y H) {i : Int32} (hin : vp_in i 3) (hdg : decode cc pc = .ok (.iaload, 1)) (kk : W p l e R s m args below meth c H locs cells slots Q (F0 m (pc + 1) ls (.int (y 104 0 0 i.toNatClampNeg) :: rest))) : W p l e R s m args below meth c H locs cells slots Q (F0 m pc ls (.int i :: .ref (gA G 104 0 0) :: rest)) := by
  obtain ⟨q0, h0, h2⟩ := wl_get (G := G) (x := x) (y := y) (id_104)
  rw [(mm_r (by decide))] at h2
  exact va_iald hx hb hK.1 hW.1 q0 0 h2 rfl hin hdg kk
theorem as_104 (hx : p.tables.exec = Jvm.exec) (hb : c.code = cc) (hK : Kt G s) (hW : Wh G x y H) (hS : va_S (gF G) H0 H locs) {i v : Int32} (hin : vp_in i 3) (hdg : decode cc pc = .ok (.iastore, 1)) (kk : ∀ (H1 : Heap) (locs1 : List Loc), Wh G x (up4 y 104 0 0 i.toNatClampNeg v) H1 → va_S (gF G) H0 H1 locs1 → W p l e R s m args below meth c H1 locs1 cells slots Q (F0 m (pc + 1) ls rest)) : W p l e R s m args below meth c H locs cells slots Q (F0 m pc ls (.int v :: .int i :: .ref (gA G 104 0 0) :: rest)) := by
  obtain ⟨q0, h0, h2⟩ := wl_get (G := G) (x := x) (y := y) (id_104)
  rw [(mm_r (by decide))] at h2
  have hs := wl_set_r (G := G) (x := x) (y := y) (s := i.toNatClampNeg) (v := v) (by decide) hW.2 h0
  refine va_iast hx hb hK.1 hW.1 hW.2 hS q0 0 h2 rfl hin hdg (fun H1 locs1 hP hD hS => kk H1 locs1 ⟨?_, ?_⟩ hS)
  · rw [← hs]; exact hP
  · rw [← hs]; exact hD
theorem an_104 (hx : p.tables.exec = Jvm.exec) (hb : c.code = cc) (hK : Kt G s) (hW : Wh G x y H) (hdg : decode cc pc = .ok (.arraylength, 1)) (kk : W p l e R s m args below meth c H locs cells slots Q (F0 m (pc + 1) ls (.int 3 :: rest))) : W p l e R s m args below meth c H locs cells slots Q (F0 m pc ls (.ref (gA G 104 0 0) :: rest)) := by
  obtain ⟨q0, h0, h2⟩ := wl_get (G := G) (x := x) (y := y) (id_104)
  exact va_alen hx hb hK.1 hW.1 q0 0 h2 rfl rfl hdg kk
theorem al_105 (hx : p.tables.exec = Jvm.exec) (hb : c.code = cc) (hK : Kt G s) (hW : Wh G x y H) {i : Int32} (hin : vp_in i 12) (hdg : decode cc pc = .ok (.iaload, 1)) (kk : W p l e R s m args below meth c H locs cells slots Q (F0 m (pc + 1) ls (.int (y 105 0 0 i.toNatClampNeg) :: rest))) : W p l e R s m args below meth c H locs cells slots Q (F0 m pc ls (.int i :: .ref (gA G 105 0 0) :: rest)) := by
  obtain ⟨q0, h0, h2⟩ := wl_get (G := G) (x := x) (y := y) (id_105)
  rw [(mm_r (by decide))] at h2
  exact va_iald hx hb hK.1 hW.1 q0 0 h2 rfl hin hdg kk
theorem as_105 (hx : p.tables.exec = Jvm.exec) (hb : c.code = cc) (hK : Kt G s) (hW : Wh G x y H) (hS : va_S (gF G) H0 H locs) {i v : Int32} (hin : vp_in i 12) (hdg : decode cc pc = .ok (.iastore, 1)) (kk : ∀ (H1 : Heap) (locs1 : List Loc), Wh G x (up4 y 105 0 0 i.toNatClampNeg v) H1 → va_S (gF G) H0 H1 locs1 → W p l e R s m args below meth c H1 locs1 cells slots Q (F0 m (pc + 1) ls rest)) : W p l e R s m args below meth c H locs cells slots Q (F0 m pc ls (.int v :: .int i :: .ref (gA G 105 0 0) :: rest)) := by
  obtain ⟨q0, h0, h2⟩ := wl_get (G := G) (x := x) (y := y) (id_105)
  rw [(mm_r (by decide))] at h2
  have hs := wl_set_r (G := G) (x := x) (y := y) (s := i.toNatClampNeg) (v := v) (by decide) hW.2 h0
  refine va_iast hx hb hK.1 hW.1 hW.2 hS q0 0 h2 rfl hin hdg (fun H1 locs1 hP hD hS => kk H1 locs1 ⟨?_, ?_⟩ hS)
  · rw [← hs]; exact hP
  · rw [← hs]; exact hD
theorem an_105 (hx : p.tables.exec = Jvm.exec) (hb : c.code = cc) (hK : Kt G s) (hW : Wh G x y H) (hdg : decode cc pc = .ok (.arraylength, 1)) (kk : W p l e R s m args below meth c H locs cells slots Q (F0 m (pc + 1) ls (.int 12 :: rest))) : W p l e R s m args below meth c H locs cells slots Q (F0 m pc ls (.ref (gA G 105 0 0) :: rest)) := by
  obtain ⟨q0, h0, h2⟩ := wl_get (G := G) (x := x) (y := y) (id_105)
  exact va_alen hx hb hK.1 hW.1 q0 0 h2 rfl rfl hdg kk
theorem al_106 (hx : p.tables.exec = Jvm.exec) (hb : c.code = cc) (hK : Kt G s) (hW : Wh G x y H) {i : Int32} (hin : vp_in i 3) (hdg : decode cc pc = .ok (.iaload, 1)) (kk : W p l e R s m args below meth c H locs cells slots Q (F0 m (pc + 1) ls (.int (y 106 0 0 i.toNatClampNeg) :: rest))) : W p l e R s m args below meth c H locs cells slots Q (F0 m pc ls (.int i :: .ref (gA G 106 0 0) :: rest)) := by
  obtain ⟨q0, h0, h2⟩ := wl_get (G := G) (x := x) (y := y) (id_106)
  rw [(mm_r (by decide))] at h2
  exact va_iald hx hb hK.1 hW.1 q0 0 h2 rfl hin hdg kk
theorem as_106 (hx : p.tables.exec = Jvm.exec) (hb : c.code = cc) (hK : Kt G s) (hW : Wh G x y H) (hS : va_S (gF G) H0 H locs) {i v : Int32} (hin : vp_in i 3) (hdg : decode cc pc = .ok (.iastore, 1)) (kk : ∀ (H1 : Heap) (locs1 : List Loc), Wh G x (up4 y 106 0 0 i.toNatClampNeg v) H1 → va_S (gF G) H0 H1 locs1 → W p l e R s m args below meth c H1 locs1 cells slots Q (F0 m (pc + 1) ls rest)) : W p l e R s m args below meth c H locs cells slots Q (F0 m pc ls (.int v :: .int i :: .ref (gA G 106 0 0) :: rest)) := by
  obtain ⟨q0, h0, h2⟩ := wl_get (G := G) (x := x) (y := y) (id_106)
  rw [(mm_r (by decide))] at h2
  have hs := wl_set_r (G := G) (x := x) (y := y) (s := i.toNatClampNeg) (v := v) (by decide) hW.2 h0
  refine va_iast hx hb hK.1 hW.1 hW.2 hS q0 0 h2 rfl hin hdg (fun H1 locs1 hP hD hS => kk H1 locs1 ⟨?_, ?_⟩ hS)
  · rw [← hs]; exact hP
  · rw [← hs]; exact hD
theorem an_106 (hx : p.tables.exec = Jvm.exec) (hb : c.code = cc) (hK : Kt G s) (hW : Wh G x y H) (hdg : decode cc pc = .ok (.arraylength, 1)) (kk : W p l e R s m args below meth c H locs cells slots Q (F0 m (pc + 1) ls (.int 3 :: rest))) : W p l e R s m args below meth c H locs cells slots Q (F0 m pc ls (.ref (gA G 106 0 0) :: rest)) := by
  obtain ⟨q0, h0, h2⟩ := wl_get (G := G) (x := x) (y := y) (id_106)
  exact va_alen hx hb hK.1 hW.1 q0 0 h2 rfl rfl hdg kk
theorem al_107 (hx : p.tables.exec = Jvm.exec) (hb : c.code = cc) (hK : Kt G s) (hW : Wh G x y H) {i : Int32} (hin : vp_in i 3) (hdg : decode cc pc = .ok (.iaload, 1)) (kk : W p l e R s m args below meth c H locs cells slots Q (F0 m (pc + 1) ls (.int (y 107 0 0 i.toNatClampNeg) :: rest))) : W p l e R s m args below meth c H locs cells slots Q (F0 m pc ls (.int i :: .ref (gA G 107 0 0) :: rest)) := by
  obtain ⟨q0, h0, h2⟩ := wl_get (G := G) (x := x) (y := y) (id_107)
  rw [(mm_r (by decide))] at h2
  exact va_iald hx hb hK.1 hW.1 q0 0 h2 rfl hin hdg kk
theorem as_107 (hx : p.tables.exec = Jvm.exec) (hb : c.code = cc) (hK : Kt G s) (hW : Wh G x y H) (hS : va_S (gF G) H0 H locs) {i v : Int32} (hin : vp_in i 3) (hdg : decode cc pc = .ok (.iastore, 1)) (kk : ∀ (H1 : Heap) (locs1 : List Loc), Wh G x (up4 y 107 0 0 i.toNatClampNeg v) H1 → va_S (gF G) H0 H1 locs1 → W p l e R s m args below meth c H1 locs1 cells slots Q (F0 m (pc + 1) ls rest)) : W p l e R s m args below meth c H locs cells slots Q (F0 m pc ls (.int v :: .int i :: .ref (gA G 107 0 0) :: rest)) := by
  obtain ⟨q0, h0, h2⟩ := wl_get (G := G) (x := x) (y := y) (id_107)
  rw [(mm_r (by decide))] at h2
  have hs := wl_set_r (G := G) (x := x) (y := y) (s := i.toNatClampNeg) (v := v) (by decide) hW.2 h0
  refine va_iast hx hb hK.1 hW.1 hW.2 hS q0 0 h2 rfl hin hdg (fun H1 locs1 hP hD hS => kk H1 locs1 ⟨?_, ?_⟩ hS)
  · rw [← hs]; exact hP
  · rw [← hs]; exact hD
theorem an_107 (hx : p.tables.exec = Jvm.exec) (hb : c.code = cc) (hK : Kt G s) (hW : Wh G x y H) (hdg : decode cc pc = .ok (.arraylength, 1)) (kk : W p l e R s m args below meth c H locs cells slots Q (F0 m (pc + 1) ls (.int 3 :: rest))) : W p l e R s m args below meth c H locs cells slots Q (F0 m pc ls (.ref (gA G 107 0 0) :: rest)) := by
  obtain ⟨q0, h0, h2⟩ := wl_get (G := G) (x := x) (y := y) (id_107)
  exact va_alen hx hb hK.1 hW.1 q0 0 h2 rfl rfl hdg kk
theorem al_108 (hx : p.tables.exec = Jvm.exec) (hb : c.code = cc) (hK : Kt G s) (hW : Wh G x y H) {i : Int32} (hin : vp_in i 3) (hdg : decode cc pc = .ok (.iaload, 1)) (kk : W p l e R s m args below meth c H locs cells slots Q (F0 m (pc + 1) ls (.int (y 108 0 0 i.toNatClampNeg) :: rest))) : W p l e R s m args below meth c H locs cells slots Q (F0 m pc ls (.int i :: .ref (gA G 108 0 0) :: rest)) := by
  obtain ⟨q0, h0, h2⟩ := wl_get (G := G) (x := x) (y := y) (id_108)
  rw [(mm_r (by decide))] at h2
  exact va_iald hx hb hK.1 hW.1 q0 0 h2 rfl hin hdg kk
theorem as_108 (hx : p.tables.exec = Jvm.exec) (hb : c.code = cc) (hK : Kt G s) (hW : Wh G x y H) (hS : va_S (gF G) H0 H locs) {i v : Int32} (hin : vp_in i 3) (hdg : decode cc pc = .ok (.iastore, 1)) (kk : ∀ (H1 : Heap) (locs1 : List Loc), Wh G x (up4 y 108 0 0 i.toNatClampNeg v) H1 → va_S (gF G) H0 H1 locs1 → W p l e R s m args below meth c H1 locs1 cells slots Q (F0 m (pc + 1) ls rest)) : W p l e R s m args below meth c H locs cells slots Q (F0 m pc ls (.int v :: .int i :: .ref (gA G 108 0 0) :: rest)) := by
  obtain ⟨q0, h0, h2⟩ := wl_get (G := G) (x := x) (y := y) (id_108)
  rw [(mm_r (by decide))] at h2
  have hs := wl_set_r (G := G) (x := x) (y := y) (s := i.toNatClampNeg) (v := v) (by decide) hW.2 h0
  refine va_iast hx hb hK.1 hW.1 hW.2 hS q0 0 h2 rfl hin hdg (fun H1 locs1 hP hD hS => kk H1 locs1 ⟨?_, ?_⟩ hS)
  · rw [← hs]; exact hP
  · rw [← hs]; exact hD
theorem an_108 (hx : p.tables.exec = Jvm.exec) (hb : c.code = cc) (hK : Kt G s) (hW : Wh G x y H) (hdg : decode cc pc = .ok (.arraylength, 1)) (kk : W p l e R s m args below meth c H locs cells slots Q (F0 m (pc + 1) ls (.int 3 :: rest))) : W p l e R s m args below meth c H locs cells slots Q (F0 m pc ls (.ref (gA G 108 0 0) :: rest)) := by
  obtain ⟨q0, h0, h2⟩ := wl_get (G := G) (x := x) (y := y) (id_108)
  exact va_alen hx hb hK.1 hW.1 q0 0 h2 rfl rfl hdg kk
theorem al_109 (hx : p.tables.exec = Jvm.exec) (hb : c.code = cc) (hK : Kt G s) (hW : Wh G x y H) {i : Int32} (hin : vp_in i 3) (hdg : decode cc pc = .ok (.iaload, 1)) (kk : W p l e R s m args below meth c H locs cells slots Q (F0 m (pc + 1) ls (.int (y 109 0 0 i.toNatClampNeg) :: rest))) : W p l e R s m args below meth c H locs cells slots Q (F0 m pc ls (.int i :: .ref (gA G 109 0 0) :: rest)) := by
  obtain ⟨q0, h0, h2⟩ := wl_get (G := G) (x := x) (y := y) (id_109)
  rw [(mm_r (by decide))] at h2
  exact va_iald hx hb hK.1 hW.1 q0 0 h2 rfl hin hdg kk
theorem as_109 (hx : p.tables.exec = Jvm.exec) (hb : c.code = cc) (hK : Kt G s) (hW : Wh G x y H) (hS : va_S (gF G) H0 H locs) {i v : Int32} (hin : vp_in i 3) (hdg : decode cc pc = .ok (.iastore, 1)) (kk : ∀ (H1 : Heap) (locs1 : List Loc), Wh G x (up4 y 109 0 0 i.toNatClampNeg v) H1 → va_S (gF G) H0 H1 locs1 → W p l e R s m args below meth c H1 locs1 cells slots Q (F0 m (pc + 1) ls rest)) : W p l e R s m args below meth c H locs cells slots Q (F0 m pc ls (.int v :: .int i :: .ref (gA G 109 0 0) :: rest)) := by
  obtain ⟨q0, h0, h2⟩ := wl_get (G := G) (x := x) (y := y) (id_109)
  rw [(mm_r (by decide))] at h2
  have hs := wl_set_r (G := G) (x := x) (y := y) (s := i.toNatClampNeg) (v := v) (by decide) hW.2 h0
  refine va_iast hx hb hK.1 hW.1 hW.2 hS q0 0 h2 rfl hin hdg (fun H1 locs1 hP hD hS => kk H1 locs1 ⟨?_, ?_⟩ hS)
  · rw [← hs]; exact hP
  · rw [← hs]; exact hD
theorem an_109 (hx : p.tables.exec = Jvm.exec) (hb : c.code = cc) (hK : Kt G s) (hW : Wh G x y H) (hdg : decode cc pc = .ok (.arraylength, 1)) (kk : W p l e R s m args below meth c H locs cells slots Q (F0 m (pc + 1) ls (.int 3 :: rest))) : W p l e R s m args below meth c H locs cells slots Q (F0 m pc ls (.ref (gA G 109 0 0) :: rest)) := by
  obtain ⟨q0, h0, h2⟩ := wl_get (G := G) (x := x) (y := y) (id_109)
  exact va_alen hx hb hK.1 hW.1 q0 0 h2 rfl rfl hdg kk
theorem al_110 (hx : p.tables.exec = Jvm.exec) (hb : c.code = cc) (hK : Kt G s) (hW : Wh G x y H) {i : Int32} (hin : vp_in i 3) (hdg : decode cc pc = .ok (.iaload, 1)) (kk : W p l e R s m args below meth c H locs cells slots Q (F0 m (pc + 1) ls (.int (y 110 0 0 i.toNatClampNeg) :: rest))) : W p l e R s m args below meth c H locs cells slots Q (F0 m pc ls (.int i :: .ref (gA G 110 0 0) :: rest)) := by
  obtain ⟨q0, h0, h2⟩ := wl_get (G := G) (x := x) (y := y) (id_110)
  rw [(mm_r (by decide))] at h2
  exact va_iald hx hb hK.1 hW.1 q0 0 h2 rfl hin hdg kk
theorem as_110 (hx : p.tables.exec = Jvm.exec) (hb : c.code = cc) (hK : Kt G s) (hW : Wh G x y H) (hS : va_S (gF G) H0 H locs) {i v : Int32} (hin : vp_in i 3) (hdg : decode cc pc = .ok (.iastore, 1)) (kk : ∀ (H1 : Heap) (locs1 : List Loc), Wh G x (up4 y 110 0 0 i.toNatClampNeg v) H1 → va_S (gF G) H0 H1 locs1 → W p l e R s m args below meth c H1 locs1 cells slots Q (F0 m (pc + 1) ls rest)) : W p l e R s m args below meth c H locs cells slots Q (F0 m pc ls (.int v :: .int i :: .ref (gA G 110 0 0) :: rest)) := by
  obtain ⟨q0, h0, h2⟩ := wl_get (G := G) (x := x) (y := y) (id_110)
  rw [(mm_r (by decide))] at h2
  have hs := wl_set_r (G := G) (x := x) (y := y) (s := i.toNatClampNeg) (v := v) (by decide) hW.2 h0
  refine va_iast hx hb hK.1 hW.1 hW.2 hS q0 0 h2 rfl hin hdg (fun H1 locs1 hP hD hS => kk H1 locs1 ⟨?_, ?_⟩ hS)
  · rw [← hs]; exact hP
  · rw [← hs]; exact hD
theorem an_110 (hx : p.tables.exec = Jvm.exec) (hb : c.code = cc) (hK : Kt G s) (hW : Wh G x y H) (hdg : decode cc pc = .ok (.arraylength, 1)) (kk : W p l e R s m args below meth c H locs cells slots Q (F0 m (pc + 1) ls (.int 3 :: rest))) : W p l e R s m args below meth c H locs cells slots Q (F0 m pc ls (.ref (gA G 110 0 0) :: rest)) := by
  obtain ⟨q0, h0, h2⟩ := wl_get (G := G) (x := x) (y := y) (id_110)
  exact va_alen hx hb hK.1 hW.1 q0 0 h2 rfl rfl hdg kk
theorem al_111 (hx : p.tables.exec = Jvm.exec) (hb : c.code = cc) (hK : Kt G s) (hW : Wh G x y H) {i : Int32} (hin : vp_in i 3) (hdg : decode cc pc = .ok (.iaload, 1)) (kk : W p l e R s m args below meth c H locs cells slots Q (F0 m (pc + 1) ls (.int (y 111 0 0 i.toNatClampNeg) :: rest))) : W p l e R s m args below meth c H locs cells slots Q (F0 m pc ls (.int i :: .ref (gA G 111 0 0) :: rest)) := by
  obtain ⟨q0, h0, h2⟩ := wl_get (G := G) (x := x) (y := y) (id_111)
  rw [(mm_r (by decide))] at h2
  exact va_iald hx hb hK.1 hW.1 q0 0 h2 rfl hin hdg kk
theorem as_111 (hx : p.tables.exec = Jvm.exec) (hb : c.code = cc) (hK : Kt G s) (hW : Wh G x y H) (hS : va_S (gF G) H0 H locs) {i v : Int32} (hin : vp_in i 3) (hdg : decode cc pc = .ok (.iastore, 1)) (kk : ∀ (H1 : Heap) (locs1 : List Loc), Wh G x (up4 y 111 0 0 i.toNatClampNeg v) H1 → va_S (gF G) H0 H1 locs1 → W p l e R s m args below meth c H1 locs1 cells slots Q (F0 m (pc + 1) ls rest)) : W p l e R s m args below meth c H locs cells slots Q (F0 m pc ls (.int v :: .int i :: .ref (gA G 111 0 0) :: rest)) := by
  obtain ⟨q0, h0, h2⟩ := wl_get (G := G) (x := x) (y := y) (id_111)
  rw [(mm_r (by decide))] at h2
  have hs := wl_set_r (G := G) (x := x) (y := y) (s := i.toNatClampNeg) (v := v) (by decide) hW.2 h0
  refine va_iast hx hb hK.1 hW.1 hW.2 hS q0 0 h2 rfl hin hdg (fun H1 locs1 hP hD hS => kk H1 locs1 ⟨?_, ?_⟩ hS)
  · rw [← hs]; exact hP
  · rw [← hs]; exact hD
theorem an_111 (hx : p.tables.exec = Jvm.exec) (hb : c.code = cc) (hK : Kt G s) (hW : Wh G x y H) (hdg : decode cc pc = .ok (.arraylength, 1)) (kk : W p l e R s m args below meth c H locs cells slots Q (F0 m (pc + 1) ls (.int 3 :: rest))) : W p l e R s m args below meth c H locs cells slots Q (F0 m pc ls (.ref (gA G 111 0 0) :: rest)) := by
  obtain ⟨q0, h0, h2⟩ := wl_get (G := G) (x := x) (y := y) (id_111)
  exact va_alen hx hb hK.1 hW.1 q0 0 h2 rfl rfl hdg kk
theorem al_112 (hx : p.tables.exec = Jvm.exec) (hb : c.code = cc) (hK : Kt G s) (hW : Wh G x y H) {i : Int32} (hin : vp_in i 90) (hdg : decode cc pc = .ok (.iaload, 1)) (kk : W p l e R s m args below meth c H locs cells slots Q (F0 m (pc + 1) ls (.int (y 112 0 0 i.toNatClampNeg) :: rest))) : W p l e R s m args below meth c H locs cells slots Q (F0 m pc ls (.int i :: .ref (gA G 112 0 0) :: rest)) := by
  obtain ⟨q0, h0, h2⟩ := wl_get (G := G) (x := x) (y := y) (id_112)
  rw [(mm_r (by decide))] at h2
  exact va_iald hx hb hK.1 hW.1 q0 0 h2 rfl hin hdg kk
theorem as_112 (hx : p.tables.exec = Jvm.exec) (hb : c.code = cc) (hK : Kt G s) (hW : Wh G x y H) (hS : va_S (gF G) H0 H locs) {i v : Int32} (hin : vp_in i 90) (hdg : decode cc pc = .ok (.iastore, 1)) (kk : ∀ (H1 : Heap) (locs1 : List Loc), Wh G x (up4 y 112 0 0 i.toNatClampNeg v) H1 → va_S (gF G) H0 H1 locs1 → W p l e R s m args below meth c H1 locs1 cells slots Q (F0 m (pc + 1) ls rest)) : W p l e R s m args below meth c H locs cells slots Q (F0 m pc ls (.int v :: .int i :: .ref (gA G 112 0 0) :: rest)) := by
  obtain ⟨q0, h0, h2⟩ := wl_get (G := G) (x := x) (y := y) (id_112)
  rw [(mm_r (by decide))] at h2
  have hs := wl_set_r (G := G) (x := x) (y := y) (s := i.toNatClampNeg) (v := v) (by decide) hW.2 h0
  refine va_iast hx hb hK.1 hW.1 hW.2 hS q0 0 h2 rfl hin hdg (fun H1 locs1 hP hD hS => kk H1 locs1 ⟨?_, ?_⟩ hS)
  · rw [← hs]; exact hP
  · rw [← hs]; exact hD
theorem an_112 (hx : p.tables.exec = Jvm.exec) (hb : c.code = cc) (hK : Kt G s) (hW : Wh G x y H) (hdg : decode cc pc = .ok (.arraylength, 1)) (kk : W p l e R s m args below meth c H locs cells slots Q (F0 m (pc + 1) ls (.int 90 :: rest))) : W p l e R s m args below meth c H locs cells slots Q (F0 m pc ls (.ref (gA G 112 0 0) :: rest)) := by
  obtain ⟨q0, h0, h2⟩ := wl_get (G := G) (x := x) (y := y) (id_112)
  exact va_alen hx hb hK.1 hW.1 q0 0 h2 rfl rfl hdg kk
theorem al_113 (hx : p.tables.exec = Jvm.exec) (hb : c.code = cc) (hK : Kt G s) (hW : Wh G x y H) {i : Int32} (hin : vp_in i 3) (hdg : decode cc pc = .ok (.iaload, 1)) (kk : W p l e R s m args below meth c H locs cells slots Q (F0 m (pc + 1) ls (.int (y 113 0 0 i.toNatClampNeg) :: rest))) : W p l e R s m args below meth c H locs cells slots Q (F0 m pc ls (.int i :: .ref (gA G 113 0 0) :: rest)) := by
  obtain ⟨q0, h0, h2⟩ := wl_get (G := G) (x := x) (y := y) (id_113)
  rw [(mm_r (by decide))] at h2
  exact va_iald hx hb hK.1 hW.1 q0 0 h2 rfl hin hdg kk
theorem as_113 (hx : p.tables.exec = Jvm.exec) (hb : c.code = cc) (hK : Kt G s) (hW : Wh G x y H) (hS : va_S (gF G) H0 H locs) {i v : Int32} (hin : vp_in i 3) (hdg : decode cc pc = .ok (.iastore, 1)) (kk : ∀ (H1 : Heap) (locs1 : List Loc), Wh G x (up4 y 113 0 0 i.toNatClampNeg v) H1 → va_S (gF G) H0 H1 locs1 → W p l e R s m args below meth c H1 locs1 cells slots Q (F0 m (pc + 1) ls rest)) : W p l e R s m args below meth c H locs cells slots Q (F0 m pc ls (.int v :: .int i :: .ref (gA G 113 0 0) :: rest)) := by
  obtain ⟨q0, h0, h2⟩ := wl_get (G := G) (x := x) (y := y) (id_113)
  rw [(mm_r (by decide))] at h2
  have hs := wl_set_r (G := G) (x := x) (y := y) (s := i.toNatClampNeg) (v := v) (by decide) hW.2 h0
  refine va_iast hx hb hK.1 hW.1 hW.2 hS q0 0 h2 rfl hin hdg (fun H1 locs1 hP hD hS => kk H1 locs1 ⟨?_, ?_⟩ hS)
  · rw [← hs]; exact hP
  · rw [← hs]; exact hD
theorem an_113 (hx : p.tables.exec = Jvm.exec) (hb : c.code = cc) (hK : Kt G s) (hW : Wh G x y H) (hdg : decode cc pc = .ok (.arraylength, 1)) (kk : W p l e R s m args below meth c H locs cells slots Q (F0 m (pc + 1) ls (.int 3 :: rest))) : W p l e R s m args below meth c H locs cells slots Q (F0 m pc ls (.ref (gA G 113 0 0) :: rest)) := by
  obtain ⟨q0, h0, h2⟩ := wl_get (G := G) (x := x) (y := y) (id_113)
  exact va_alen hx hb hK.1 hW.1 q0 0 h2 rfl rfl hdg kk
theorem al_114 (hx : p.tables.exec = Jvm.exec) (hb : c.code = cc) (hK : Kt G s) (hW : Wh G x y H) {i : Int32} (hin : vp_in i 3) (hdg : decode cc pc = .ok (.iaload, 1)) (kk : W p l e R s m args below meth c H locs cells slots Q (F0 m (pc + 1) ls (.int (y 114 0 0 i.toNatClampNeg) :: rest))) : W p l e R s m args below meth c H locs cells slots Q (F0 m pc ls (.int i :: .ref (gA G 114 0 0) :: rest)) := by
  obtain ⟨q0, h0, h2⟩ := wl_get (G := G) (x := x) (y := y) (id_114)
  rw [(mm_r (by decide))] at h2
  exact va_iald hx hb hK.1 hW.1 q0 0 h2 rfl hin hdg kk
theorem as_114 (hx : p.tables.exec = Jvm.exec) (hb : c.code = cc) (hK : Kt G s) (hW : Wh G x y H) (hS : va_S (gF G) H0 H locs) {i v : Int32} (hin : vp_in i 3) (hdg : decode cc pc = .ok (.iastore, 1)) (kk : ∀ (H1 : Heap) (locs1 : List Loc), Wh G x (up4 y 114 0 0 i.toNatClampNeg v) H1 → va_S (gF G) H0 H1 locs1 → W p l e R s m args below meth c H1 locs1 cells slots Q (F0 m (pc + 1) ls rest)) : W p l e R s m args below meth c H locs cells slots Q (F0 m pc ls (.int v :: .int i :: .ref (gA G 114 0 0) :: rest)) := by
  obtain ⟨q0, h0, h2⟩ := wl_get (G := G) (x := x) (y := y) (id_114)
  rw [(mm_r (by decide))] at h2
  have hs := wl_set_r (G := G) (x := x) (y := y) (s := i.toNatClampNeg) (v := v) (by decide) hW.2 h0
  refine va_iast hx hb hK.1 hW.1 hW.2 hS q0 0 h2 rfl hin hdg (fun H1 locs1 hP hD hS => kk H1 locs1 ⟨?_, ?_⟩ hS)
  · rw [← hs]; exact hP
  · rw [← hs]; exact hD
theorem an_114 (hx : p.tables.exec = Jvm.exec) (hb : c.code = cc) (hK : Kt G s) (hW : Wh G x y H) (hdg : decode cc pc = .ok (.arraylength, 1)) (kk : W p l e R s m args below meth c H locs cells slots Q (F0 m (pc + 1) ls (.int 3 :: rest))) : W p l e R s m args below meth c H locs cells slots Q (F0 m pc ls (.ref (gA G 114 0 0) :: rest)) := by
  obtain ⟨q0, h0, h2⟩ := wl_get (G := G) (x := x) (y := y) (id_114)
  exact va_alen hx hb hK.1 hW.1 q0 0 h2 rfl rfl hdg kk
theorem al_115 (hx : p.tables.exec = Jvm.exec) (hb : c.code = cc) (hK : Kt G s) (hW : Wh G x y H) {i : Int32} (hin : vp_in i 3) (hdg : decode cc pc = .ok (.iaload, 1)) (kk : W p l e R s m args below meth c H locs cells slots Q (F0 m (pc + 1) ls (.int (y 115 0 0 i.toNatClampNeg) :: rest))) : W p l e R s m args below meth c H locs cells slots Q (F0 m pc ls (.int i :: .ref (gA G 115 0 0) :: rest)) := by
  obtain ⟨q0, h0, h2⟩ := wl_get (G := G) (x := x) (y := y) (id_115)
  rw [(mm_r (by decide))] at h2
  exact va_iald hx hb hK.1 hW.1 q0 0 h2 rfl hin hdg kk
theorem as_115 (hx : p.tables.exec = Jvm.exec) (hb : c.code = cc) (hK : Kt G s) (hW : Wh G x y H) (hS : va_S (gF G) H0 H locs) {i v : Int32} (hin : vp_in i 3) (hdg : decode cc pc = .ok (.iastore, 1)) (kk : ∀ (H1 : Heap) (locs1 : List Loc), Wh G x (up4 y 115 0 0 i.toNatClampNeg v) H1 → va_S (gF G) H0 H1 locs1 → W p l e R s m args below meth c H1 locs1 cells slots Q (F0 m (pc + 1) ls rest)) : W p l e R s m args below meth c H locs cells slots Q (F0 m pc ls (.int v :: .int i :: .ref (gA G 115 0 0) :: rest)) := by
  obtain ⟨q0, h0, h2⟩ := wl_get (G := G) (x := x) (y := y) (id_115)
  rw [(mm_r (by decide))] at h2
  have hs := wl_set_r (G := G) (x := x) (y := y) (s := i.toNatClampNeg) (v := v) (by decide) hW.2 h0
  refine va_iast hx hb hK.1 hW.1 hW.2 hS q0 0 h2 rfl hin hdg (fun H1 locs1 hP hD hS => kk H1 locs1 ⟨?_, ?_⟩ hS)
  · rw [← hs]; exact hP
  · rw [← hs]; exact hD
theorem an_115 (hx : p.tables.exec = Jvm.exec) (hb : c.code = cc) (hK : Kt G s) (hW : Wh G x y H) (hdg : decode cc pc = .ok (.arraylength, 1)) (kk : W p l e R s m args below meth c H locs cells slots Q (F0 m (pc + 1) ls (.int 3 :: rest))) : W p l e R s m args below meth c H locs cells slots Q (F0 m pc ls (.ref (gA G 115 0 0) :: rest)) := by
  obtain ⟨q0, h0, h2⟩ := wl_get (G := G) (x := x) (y := y) (id_115)
  exact va_alen hx hb hK.1 hW.1 q0 0 h2 rfl rfl hdg kk
theorem al_116 (hx : p.tables.exec = Jvm.exec) (hb : c.code = cc) (hK : Kt G s) (hW : Wh G x y H) {i : Int32} (hin : vp_in i 3) (hdg : decode cc pc = .ok (.iaload, 1)) (kk : W p l e R s m args below meth c H locs cells slots Q (F0 m (pc + 1) ls (.int (y 116 0 0 i.toNatClampNeg) :: rest))) : W p l e R s m args below meth c H locs cells slots Q (F0 m pc ls (.int i :: .ref (gA G 116 0 0) :: rest)) := by
  obtain ⟨q0, h0, h2⟩ := wl_get (G := G) (x := x) (y := y) (id_116)
  rw [(mm_r (by decide))] at h2
  exact va_iald hx hb hK.1 hW.1 q0 0 h2 rfl hin hdg kk
theorem as_116 (hx : p.tables.exec = Jvm.exec) (hb : c.code = cc) (hK : Kt G s) (hW : Wh G x y H) (hS : va_S (gF G) H0 H locs) {i v : Int32} (hin : vp_in i 3) (hdg : decode cc pc = .ok (.iastore, 1)) (kk : ∀ (H1 : Heap) (locs1 : List Loc), Wh G x (up4 y 116 0 0 i.toNatClampNeg v) H1 → va_S (gF G) H0 H1 locs1 → W p l e R s m args below meth c H1 locs1 cells slots Q (F0 m (pc + 1) ls rest)) : W p l e R s m args below meth c H locs cells slots Q (F0 m pc ls (.int v :: .int i :: .ref (gA G 116 0 0) :: rest)) := by
  obtain ⟨q0, h0, h2⟩ := wl_get (G := G) (x := x) (y := y) (id_116)
  rw [(mm_r (by decide))] at h2
  have hs := wl_set_r (G := G) (x := x) (y := y) (s := i.toNatClampNeg) (v := v) (by decide) hW.2 h0
  refine va_iast hx hb hK.1 hW.1 hW.2 hS q0 0 h2 rfl hin hdg (fun H1 locs1 hP hD hS => kk H1 locs1 ⟨?_, ?_⟩ hS)
  · rw [← hs]; exact hP
  · rw [← hs]; exact hD
theorem an_116 (hx : p.tables.exec = Jvm.exec) (hb : c.code = cc) (hK : Kt G s) (hW : Wh G x y H) (hdg : decode cc pc = .ok (.arraylength, 1)) (kk : W p l e R s m args below meth c H locs cells slots Q (F0 m (pc + 1) ls (.int 3 :: rest))) : W p l e R s m args below meth c H locs cells slots Q (F0 m pc ls (.ref (gA G 116 0 0) :: rest)) := by
  obtain ⟨q0, h0, h2⟩ := wl_get (G := G) (x := x) (y := y) (id_116)
  exact va_alen hx hb hK.1 hW.1 q0 0 h2 rfl rfl hdg kk
theorem al_117 (hx : p.tables.exec = Jvm.exec) (hb : c.code = cc) (hK : Kt G s) (hW : Wh G x y H) {i : Int32} (hin : vp_in i 3) (hdg : decode cc pc = .ok (.iaload, 1)) (kk : W p l e R s m args below meth c H locs cells slots Q (F0 m (pc + 1) ls (.int (y 117 0 0 i.toNatClampNeg) :: rest))) : W p l e R s m args below meth c H locs cells slots Q (F0 m pc ls (.int i :: .ref (gA G 117 0 0) :: rest)) := by
  obtain ⟨q0, h0, h2⟩ := wl_get (G := G) (x := x) (y := y) (id_117)
  rw [(mm_r (by decide))] at h2
  exact va_iald hx hb hK.1 hW.1 q0 0 h2 rfl hin hdg kk
theorem as_117 (hx : p.tables.exec = Jvm.exec) (hb : c.code = cc) (hK : Kt G s) (hW : Wh G x y H) (hS : va_S (gF G) H0 H locs) {i v : Int32} (hin : vp_in i 3) (hdg : decode cc pc = .ok (.iastore, 1)) (kk : ∀ (H1 : Heap) (locs1 : List Loc), Wh G x (up4 y 117 0 0 i.toNatClampNeg v) H1 → va_S (gF G) H0 H1 locs1 → W p l e R s m args below meth c H1 locs1 cells slots Q (F0 m (pc + 1) ls rest)) : W p l e R s m args below meth c H locs cells slots Q (F0 m pc ls (.int v :: .int i :: .ref (gA G 117 0 0) :: rest)) := by
  obtain ⟨q0, h0, h2⟩ := wl_get (G := G) (x := x) (y := y) (id_117)
  rw [(mm_r (by decide))] at h2
  have hs := wl_set_r (G := G) (x := x) (y := y) (s := i.toNatClampNeg) (v := v) (by decide) hW.2 h0
  refine va_iast hx hb hK.1 hW.1 hW.2 hS q0 0 h2 rfl hin hdg (fun H1 locs1 hP hD hS => kk H1 locs1 ⟨?_, ?_⟩ hS)
  · rw [← hs]; exact hP
  · rw [← hs]; exact hD
theorem an_117 (hx : p.tables.exec = Jvm.exec) (hb : c.code = cc) (hK : Kt G s) (hW : Wh G x y H) (hdg : decode cc pc = .ok (.arraylength, 1)) (kk : W p l e R s m args below meth c H locs cells slots Q (F0 m (pc + 1) ls (.int 3 :: rest))) : W p l e R s m args below meth c H locs cells slots Q (F0 m pc ls (.ref (gA G 117 0 0) :: rest)) := by
  obtain ⟨q0, h0, h2⟩ := wl_get (G := G) (x := x) (y := y) (id_117)
  exact va_alen hx hb hK.1 hW.1 q0 0 h2 rfl rfl hdg kk
theorem al_118 (hx : p.tables.exec = Jvm.exec) (hb : c.code = cc) (hK : Kt G s) (hW : Wh G x y H) {i : Int32} (hin : vp_in i 3) (hdg : decode cc pc = .ok (.iaload, 1)) (kk : W p l e R s m args below meth c H locs cells slots Q (F0 m (pc + 1) ls (.int (y 118 0 0 i.toNatClampNeg) :: rest))) : W p l e R s m args below meth c H locs cells slots Q (F0 m pc ls (.int i :: .ref (gA G 118 0 0) :: rest)) := by
  obtain ⟨q0, h0, h2⟩ := wl_get (G := G) (x := x) (y := y) (id_118)
  rw [(mm_r (by decide))] at h2
  exact va_iald hx hb hK.1 hW.1 q0 0 h2 rfl hin hdg kk
theorem as_118 (hx : p.tables.exec = Jvm.exec) (hb : c.code = cc) (hK : Kt G s) (hW : Wh G x y H) (hS : va_S (gF G) H0 H locs) {i v : Int32} (hin : vp_in i 3) (hdg : decode cc pc = .ok (.iastore, 1)) (kk : ∀ (H1 : Heap) (locs1 : List Loc), Wh G x (up4 y 118 0 0 i.toNatClampNeg v) H1 → va_S (gF G) H0 H1 locs1 → W p l e R s m args below meth c H1 locs1 cells slots Q (F0 m (pc + 1) ls rest)) : W p l e R s m args below meth c H locs cells slots Q (F0 m pc ls (.int v :: .int i :: .ref (gA G 118 0 0) :: rest)) := by
  obtain ⟨q0, h0, h2⟩ := wl_get (G := G) (x := x) (y := y) (id_118)
  rw [(mm_r (by decide))] at h2
  have hs := wl_set_r (G := G) (x := x) (y := y) (s := i.toNatClampNeg) (v := v) (by decide) hW.2 h0
  refine va_iast hx hb hK.1 hW.1 hW.2 hS q0 0 h2 rfl hin hdg (fun H1 locs1 hP hD hS => kk H1 locs1 ⟨?_, ?_⟩ hS)
  · rw [← hs]; exact hP
  · rw [← hs]; exact hD
theorem an_118 (hx : p.tables.exec = Jvm.exec) (hb : c.code = cc) (hK : Kt G s) (hW : Wh G x y H) (hdg : decode cc pc = .ok (.arraylength, 1)) (kk : W p l e R s m args below meth c H locs cells slots Q (F0 m (pc + 1) ls (.int 3 :: rest))) : W p l e R s m args below meth c H locs cells slots Q (F0 m pc ls (.ref (gA G 118 0 0) :: rest)) := by
  obtain ⟨q0, h0, h2⟩ := wl_get (G := G) (x := x) (y := y) (id_118)
  exact va_alen hx hb hK.1 hW.1 q0 0 h2 rfl rfl hdg kk
theorem al_119 (hx : p.tables.exec = Jvm.exec) (hb : c.code = cc) (hK : Kt G s) (hW : Wh G x y H) {i : Int32} (hin : vp_in i 3) (hdg : decode cc pc = .ok (.iaload, 1)) (kk : W p l e R s m args below meth c H locs cells slots Q (F0 m (pc + 1) ls (.int (y 119 0 0 i.toNatClampNeg) :: rest))) : W p l e R s m args below meth c H locs cells slots Q (F0 m pc ls (.int i :: .ref (gA G 119 0 0) :: rest)) := by
  obtain ⟨q0, h0, h2⟩ := wl_get (G := G) (x := x) (y := y) (id_119)
  rw [(mm_r (by decide))] at h2
  exact va_iald hx hb hK.1 hW.1 q0 0 h2 rfl hin hdg kk
theorem as_119 (hx : p.tables.exec = Jvm.exec) (hb : c.code = cc) (hK : Kt G s) (hW : Wh G x y H) (hS : va_S (gF G) H0 H locs) {i v : Int32} (hin : vp_in i 3) (hdg : decode cc pc = .ok (.iastore, 1)) (kk : ∀ (H1 : Heap) (locs1 : List Loc), Wh G x (up4 y 119 0 0 i.toNatClampNeg v) H1 → va_S (gF G) H0 H1 locs1 → W p l e R s m args below meth c H1 locs1 cells slots Q (F0 m (pc + 1) ls rest)) : W p l e R s m args below meth c H locs cells slots Q (F0 m pc ls (.int v :: .int i :: .ref (gA G 119 0 0) :: rest)) := by
  obtain ⟨q0, h0, h2⟩ := wl_get (G := G) (x := x) (y := y) (id_119)
  rw [(mm_r (by decide))] at h2
  have hs := wl_set_r (G := G) (x := x) (y := y) (s := i.toNatClampNeg) (v := v) (by decide) hW.2 h0
  refine va_iast hx hb hK.1 hW.1 hW.2 hS q0 0 h2 rfl hin hdg (fun H1 locs1 hP hD hS => kk H1 locs1 ⟨?_, ?_⟩ hS)
  · rw [← hs]; exact hP
  · rw [← hs]; exact hD
theorem an_119 (hx : p.tables.exec = Jvm.exec) (hb : c.code = cc) (hK : Kt G s) (hW : Wh G x y H) (hdg : decode cc pc = .ok (.arraylength, 1)) (kk : W p l e R s m args below meth c H locs cells slots Q (F0 m (pc + 1) ls (.int 3 :: rest))) : W p l e R s m args below meth c H locs cells slots Q (F0 m pc ls (.ref (gA G 119 0 0) :: rest)) := by
  obtain ⟨q0, h0, h2⟩ := wl_get (G := G) (x := x) (y := y) (id_119)
  exact va_alen hx hb hK.1 hW.1 q0 0 h2 rfl rfl hdg kk
theorem al_120 (hx : p.tables.exec = Jvm.exec) (hb : c.code = cc) (hK : Kt G s) (hW : Wh G x y H) {i : Int32} (hin : vp_in i 3) (hdg : decode cc pc = .ok (.iaload, 1)) (kk : W p l e R s m args below meth c H locs cells slots Q (F0 m (pc + 1) ls (.int (y 120 0 0 i.toNatClampNeg) :: rest))) : W p l e R s m args below meth c H locs cells slots Q (F0 m pc ls (.int i :: .ref (gA G 120 0 0) :: rest)) := by
  obtain ⟨q0, h0, h2⟩ := wl_get (G := G) (x := x) (y := y) (id_120)
  rw [(mm_r (by decide))] at h2
  exact va_iald hx hb hK.1 hW.1 q0 0 h2 rfl hin hdg kk
theorem as_120 (hx : p.tables.exec = Jvm.exec) (hb : c.code = cc) (hK : Kt G s) (hW : Wh G x y H) (hS : va_S (gF G) H0 H locs) {i v : Int32} (hin : vp_in i 3) (hdg : decode cc pc = .ok (.iastore, 1)) (kk : ∀ (H1 : Heap) (locs1 : List Loc), Wh G x (up4 y 120 0 0 i.toNatClampNeg v) H1 → va_S (gF G) H0 H1 locs1 → W p l e R s m args below meth c H1 locs1 cells slots Q (F0 m (pc + 1) ls rest)) : W p l e R s m args below meth c H locs cells slots Q (F0 m pc ls (.int v :: .int i :: .ref (gA G 120 0 0) :: rest)) := by
  obtain ⟨q0, h0, h2⟩ := wl_get (G := G) (x := x) (y := y) (id_120)
  rw [(mm_r (by decide))] at h2
  have hs := wl_set_r (G := G) (x := x) (y := y) (s := i.toNatClampNeg) (v := v) (by decide) hW.2 h0
  refine va_iast hx hb hK.1 hW.1 hW.2 hS q0 0 h2 rfl hin hdg (fun H1 locs1 hP hD hS => kk H1 locs1 ⟨?_, ?_⟩ hS)
  · rw [← hs]; exact hP
  · rw [← hs]; exact hD
theorem an_120 (hx : p.tables.exec = Jvm.exec) (hb : c.code = cc) (hK : Kt G s) (hW : Wh G x y H) (hdg : decode cc pc = .ok (.arraylength, 1)) (kk : W p l e R s m args below meth c H locs cells slots Q (F0 m (pc + 1) ls (.int 3 :: rest))) : W p l e R s m args below meth c H locs cells slots Q (F0 m pc ls (.ref (gA G 120 0 0) :: rest)) := by
  obtain ⟨q0, h0, h2⟩ := wl_get (G := G) (x := x) (y := y) (id_120)
  exact va_alen hx hb hK.1 hW.1 q0 0 h2 rfl rfl hdg kk
theorem al_121 (hx : p.tables.exec = Jvm.exec) (hb : c.code = cc) (hK : Kt G s) (hW : Wh G x y H) {i : Int32} (hin : vp_in i 3) (hdg : decode cc pc = .ok (.iaload, 1)) (kk : W p l e R s m args below meth c H locs cells slots Q (F0 m (pc + 1) ls (.int (y 121 0 0 i.toNatClampNeg) :: rest))) : W p l e R s m args below meth c H locs cells slots Q (F0 m pc ls (.int i :: .ref (gA G 121 0 0) :: rest)) := by
  obtain ⟨q0, h0, h2⟩ := wl_get (G := G) (x := x) (y := y) (id_121)
  rw [(mm_r (by decide))] at h2
  exact va_iald hx hb hK.1 hW.1 q0 0 h2 rfl hin hdg kk
theorem as_121 (hx : p.tables.exec = Jvm.exec) (hb : c.code = cc) (hK : Kt G s) (hW : Wh G x y H) (hS : va_S (gF G) H0 H locs) {i v : Int32} (hin : vp_in i 3) (hdg : decode cc pc = .ok (.iastore, 1)) (kk : ∀ (H1 : Heap) (locs1 : List Loc), Wh G x (up4 y 121 0 0 i.toNatClampNeg v) H1 → va_S (gF G) H0 H1 locs1 → W p l e R s m args below meth c H1 locs1 cells slots Q (F0 m (pc + 1) ls rest)) : W p l e R s m args below meth c H locs cells slots Q (F0 m pc ls (.int v :: .int i :: .ref (gA G 121 0 0) :: rest)) := by
  obtain ⟨q0, h0, h2⟩ := wl_get (G := G) (x := x) (y := y) (id_121)
  rw [(mm_r (by decide))] at h2
  have hs := wl_set_r (G := G) (x := x) (y := y) (s := i.toNatClampNeg) (v := v) (by decide) hW.2 h0
  refine va_iast hx hb hK.1 hW.1 hW.2 hS q0 0 h2 rfl hin hdg (fun H1 locs1 hP hD hS => kk H1 locs1 ⟨?_, ?_⟩ hS)
  · rw [← hs]; exact hP
  · rw [← hs]; exact hD
theorem an_121 (hx : p.tables.exec = Jvm.exec) (hb : c.code = cc) (hK : Kt G s) (hW : Wh G x y H) (hdg : decode cc pc = .ok (.arraylength, 1)) (kk : W p l e R s m args below meth c H locs cells slots Q (F0 m (pc + 1) ls (.int 3 :: rest))) : W p l e R s m args below meth c H locs cells slots Q (F0 m pc ls (.ref (gA G 121 0 0) :: rest)) := by
  obtain ⟨q0, h0, h2⟩ := wl_get (G := G) (x := x) (y := y) (id_121)
  exact va_alen hx hb hK.1 hW.1 q0 0 h2 rfl rfl hdg kk
theorem al_122 (hx : p.tables.exec = Jvm.exec) (hb : c.code = cc) (hK : Kt G s) (hW : Wh G x y H) {i : Int32} (hin : vp_in i 30) (hdg : decode cc pc = .ok (.iaload, 1)) (kk : W p l e R s m args below meth c H locs cells slots Q (F0 m (pc + 1) ls (.int (y 122 0 0 i.toNatClampNeg) :: rest))) : W p l e R s m args below meth c H locs cells slots Q (F0 m pc ls (.int i :: .ref (gA G 122 0 0) :: rest)) := by
  obtain ⟨q0, h0, h2⟩ := wl_get (G := G) (x := x) (y := y) (id_122)
  rw [(mm_r (by decide))] at h2
  exact va_iald hx hb hK.1 hW.1 q0 0 h2 rfl hin hdg kk
theorem as_122 (hx : p.tables.exec = Jvm.exec) (hb : c.code = cc) (hK : Kt G s) (hW : Wh G x y H) (hS : va_S (gF G) H0 H locs) {i v : Int32} (hin : vp_in i 30) (hdg : decode cc pc = .ok (.iastore, 1)) (kk : ∀ (H1 : Heap) (locs1 : List Loc), Wh G x (up4 y 122 0 0 i.toNatClampNeg v) H1 → va_S (gF G) H0 H1 locs1 → W p l e R s m args below meth c H1 locs1 cells slots Q (F0 m (pc + 1) ls rest)) : W p l e R s m args below meth c H locs cells slots Q (F0 m pc ls (.int v :: .int i :: .ref (gA G 122 0 0) :: rest)) := by
  obtain ⟨q0, h0, h2⟩ := wl_get (G := G) (x := x) (y := y) (id_122)
  rw [(mm_r (by decide))] at h2
  have hs := wl_set_r (G := G) (x := x) (y := y) (s := i.toNatClampNeg) (v := v) (by decide) hW.2 h0
  refine va_iast hx hb hK.1 hW.1 hW.2 hS q0 0 h2 rfl hin hdg (fun H1 locs1 hP hD hS => kk H1 locs1 ⟨?_, ?_⟩ hS)
  · rw [← hs]; exact hP
  · rw [← hs]; exact hD
theorem an_122 (hx : p.tables.exec = Jvm.exec) (hb : c.code = cc) (hK : Kt G s) (hW : Wh G x y H) (hdg : decode cc pc = .ok (.arraylength, 1)) (kk : W p l e R s m args below meth c H locs cells slots Q (F0 m (pc + 1) ls (.int 30 :: rest))) : W p l e R s m args below meth c H locs cells slots Q (F0 m pc ls (.ref (gA G 122 0 0) :: rest)) := by
  obtain ⟨q0, h0, h2⟩ := wl_get (G := G) (x := x) (y := y) (id_122)
  exact va_alen hx hb hK.1 hW.1 q0 0 h2 rfl rfl hdg kk
theorem al_123 (hx : p.tables.exec = Jvm.exec) (hb : c.code = cc) (hK : Kt G s) (hW : Wh G x y H) {i : Int32} (hin : vp_in i 30) (hdg : decode cc pc = .ok (.iaload, 1)) (kk : W p l e R s m args below meth c H locs cells slots Q (F0 m (pc + 1) ls (.int (y 123 0 0 i.toNatClampNeg) :: rest))) : W p l e R s m args below meth c H locs cells slots Q (F0 m pc ls (.int i :: .ref (gA G 123 0 0) :: rest)) := by
  obtain ⟨q0, h0, h2⟩ := wl_get (G := G) (x := x) (y := y) (id_123)
  rw [(mm_r (by decide))] at h2
  exact va_iald hx hb hK.1 hW.1 q0 0 h2 rfl hin hdg kk
theorem as_123 (hx : p.tables.exec = Jvm.exec) (hb : c.code = cc) (hK : Kt G s) (hW : Wh G x y H) (hS : va_S (gF G) H0 H locs) {i v : Int32} (hin : vp_in i 30) (hdg : decode cc pc = .ok (.iastore, 1)) (kk : ∀ (H1 : Heap) (locs1 : List Loc), Wh G x (up4 y 123 0 0 i.toNatClampNeg v) H1 → va_S (gF G) H0 H1 locs1 → W p l e R s m args below meth c H1 locs1 cells slots Q (F0 m (pc + 1) ls rest)) : W p l e R s m args below meth c H locs cells slots Q (F0 m pc ls (.int v :: .int i :: .ref (gA G 123 0 0) :: rest)) := by
  obtain ⟨q0, h0, h2⟩ := wl_get (G := G) (x := x) (y := y) (id_123)
  rw [(mm_r (by decide))] at h2
  have hs := wl_set_r (G := G) (x := x) (y := y) (s := i.toNatClampNeg) (v := v) (by decide) hW.2 h0
  refine va_iast hx hb hK.1 hW.1 hW.2 hS q0 0 h2 rfl hin hdg (fun H1 locs1 hP hD hS => kk H1 locs1 ⟨?_, ?_⟩ hS)
  · rw [← hs]; exact hP
  · rw [← hs]; exact hD
theorem an_123 (hx : p.tables.exec = Jvm.exec) (hb : c.code = cc) (hK : Kt G s) (hW : Wh G x y H) (hdg : decode cc pc = .ok (.arraylength, 1)) (kk : W p l e R s m args below meth c H locs cells slots Q (F0 m (pc + 1) ls (.int 30 :: rest))) : W p l e R s m args below meth c H locs cells slots Q (F0 m pc ls (.ref (gA G 123 0 0) :: rest)) := by
  obtain ⟨q0, h0, h2⟩ := wl_get (G := G) (x := x) (y := y) (id_123)
  exact va_alen hx hb hK.1 hW.1 q0 0 h2 rfl rfl hdg kk
theorem al_124 (hx : p.tables.exec = Jvm.exec) (hb : c.code = cc) (hK : Kt G s) (hW : Wh G x y H) {i : Int32} (hin : vp_in i 30) (hdg : decode cc pc = .ok (.iaload, 1)) (kk : W p l e R s m args below meth c H locs cells slots Q (F0 m (pc + 1) ls (.int (y 124 0 0 i.toNatClampNeg) :: rest))) : W p l e R s m args below meth c H locs cells slots Q (F0 m pc ls (.int i :: .ref (gA G 124 0 0) :: rest)) := by
  obtain ⟨q0, h0, h2⟩ := wl_get (G := G) (x := x) (y := y) (id_124)
  rw [(mm_r (by decide))] at h2
  exact va_iald hx hb hK.1 hW.1 q0 0 h2 rfl hin hdg kk
theorem as_124 (hx : p.tables.exec = Jvm.exec) (hb : c.code = cc) (hK : Kt G s) (hW : Wh G x y H) (hS : va_S (gF G) H0 H locs) {i v : Int32} (hin : vp_in i 30) (hdg : decode cc pc = .ok (.iastore, 1)) (kk : ∀ (H1 : Heap) (locs1 : List Loc), Wh G x (up4 y 124 0 0 i.toNatClampNeg v) H1 → va_S (gF G) H0 H1 locs1 → W p l e R s m args below meth c H1 locs1 cells slots Q (F0 m (pc + 1) ls rest)) : W p l e R s m args below meth c H locs cells slots Q (F0 m pc ls (.int v :: .int i :: .ref (gA G 124 0 0) :: rest)) := by
  obtain ⟨q0, h0, h2⟩ := wl_get (G := G) (x := x) (y := y) (id_124)
  rw [(mm_r (by decide))] at h2
  have hs := wl_set_r (G := G) (x := x) (y := y) (s := i.toNatClampNeg) (v := v) (by decide) hW.2 h0
  refine va_iast hx hb hK.1 hW.1 hW.2 hS q0 0 h2 rfl hin hdg (fun H1 locs1 hP hD hS => kk H1 locs1 ⟨?_, ?_⟩ hS)
  · rw [← hs]; exact hP
  · rw [← hs]; exact hD
theorem an_124 (hx : p.tables.exec = Jvm.exec) (hb : c.code = cc) (hK : Kt G s) (hW : Wh G x y H) (hdg : decode cc pc = .ok (.arraylength, 1)) (kk : W p l e R s m args below meth c H locs cells slots Q (F0 m (pc + 1) ls (.int 30 :: rest))) : W p l e R s m args below meth c H locs cells slots Q (F0 m pc ls (.ref (gA G 124 0 0) :: rest)) := by
  obtain ⟨q0, h0, h2⟩ := wl_get (G := G) (x := x) (y := y) (id_124)
  exact va_alen hx hb hK.1 hW.1 q0 0 h2 rfl rfl hdg kk
theorem al_125 (hx : p.tables.exec = Jvm.exec) (hb : c.code = cc) (hK : Kt G s) (hW : Wh G x y H) {i : Int32} (hin : vp_in i 30) (hdg : decode cc pc = .ok (.iaload, 1)) (kk : W p l e R s m args below meth c H locs cells slots Q (F0 m (pc + 1) ls (.int (y 125 0 0 i.toNatClampNeg) :: rest))) : W p l e R s m args below meth c H locs cells slots Q (F0 m pc ls (.int i :: .ref (gA G 125 0 0) :: rest)) := by
  obtain ⟨q0, h0, h2⟩ := wl_get (G := G) (x := x) (y := y) (id_125)
  rw [(mm_r (by decide))] at h2
  exact va_iald hx hb hK.1 hW.1 q0 0 h2 rfl hin hdg kk
theorem as_125 (hx : p.tables.exec = Jvm.exec) (hb : c.code = cc) (hK : Kt G s) (hW : Wh G x y H) (hS : va_S (gF G) H0 H locs) {i v : Int32} (hin : vp_in i 30) (hdg : decode cc pc = .ok (.iastore, 1)) (kk : ∀ (H1 : Heap) (locs1 : List Loc), Wh G x (up4 y 125 0 0 i.toNatClampNeg v) H1 → va_S (gF G) H0 H1 locs1 → W p l e R s m args below meth c H1 locs1 cells slots Q (F0 m (pc + 1) ls rest)) : W p l e R s m args below meth c H locs cells slots Q (F0 m pc ls (.int v :: .int i :: .ref (gA G 125 0 0) :: rest)) := by
  obtain ⟨q0, h0, h2⟩ := wl_get (G := G) (x := x) (y := y) (id_125)
  rw [(mm_r (by decide))] at h2
  have hs := wl_set_r (G := G) (x := x) (y := y) (s := i.toNatClampNeg) (v := v) (by decide) hW.2 h0
  refine va_iast hx hb hK.1 hW.1 hW.2 hS q0 0 h2 rfl hin hdg (fun H1 locs1 hP hD hS => kk H1 locs1 ⟨?_, ?_⟩ hS)
  · rw [← hs]; exact hP
  · rw [← hs]; exact hD
theorem an_125 (hx : p.tables.exec = Jvm.exec) (hb : c.code = cc) (hK : Kt G s) (hW : Wh G x y H) (hdg : decode cc pc = .ok (.arraylength, 1)) (kk : W p l e R s m args below meth c H locs cells slots Q (F0 m (pc + 1) ls (.int 30 :: rest))) : W p l e R s m args below meth c H locs cells slots Q (F0 m pc ls (.ref (gA G 125 0 0) :: rest)) := by
  obtain ⟨q0, h0, h2⟩ := wl_get (G := G) (x := x) (y := y) (id_125)
  exact va_alen hx hb hK.1 hW.1 q0 0 h2 rfl rfl hdg kk
theorem al_126 (hx : p.tables.exec = Jvm.exec) (hb : c.code = cc) (hK : Kt G s) (hW : Wh G x y H) {i : Int32} (hin : vp_in i 30) (hdg : decode cc pc = .ok (.iaload, 1)) (kk : W p l e R s m args below meth c H locs cells slots Q (F0 m (pc + 1) ls (.int (y 126 0 0 i.toNatClampNeg) :: rest))) : W p l e R s m args below meth c H locs cells slots Q (F0 m pc ls (.int i :: .ref (gA G 126 0 0) :: rest)) := by
  obtain ⟨q0, h0, h2⟩ := wl_get (G := G) (x := x) (y := y) (id_126)
  rw [(mm_r (by decide))] at h2
  exact va_iald hx hb hK.1 hW.1 q0 0 h2 rfl hin hdg kk
theorem as_126 (hx : p.tables.exec = Jvm.exec) (hb : c.code = cc) (hK : Kt G s) (hW : Wh G x y H) (hS : va_S (gF G) H0 H locs) {i v : Int32} (hin : vp_in i 30) (hdg : decode cc pc = .ok (.iastore, 1)) (kk : ∀ (H1 : Heap) (locs1 : List Loc), Wh G x (up4 y 126 0 0 i.toNatClampNeg v) H1 → va_S (gF G) H0 H1 locs1 → W p l e R s m args below meth c H1 locs1 cells slots Q (F0 m (pc + 1) ls rest)) : W p l e R s m args below meth c H locs cells slots Q (F0 m pc ls (.int v :: .int i :: .ref (gA G 126 0 0) :: rest)) := by
  obtain ⟨q0, h0, h2⟩ := wl_get (G := G) (x := x) (y := y) (id_126)
  rw [(mm_r (by decide))] at h2
  have hs := wl_set_r (G := G) (x := x) (y := y) (s := i.toNatClampNeg) (v := v) (by decide) hW.2 h0
  refine va_iast hx hb hK.1 hW.1 hW.2 hS q0 0 h2 rfl hin hdg (fun H1 locs1 hP hD hS => kk H1 locs1 ⟨?_, ?_⟩ hS)
  · rw [← hs]; exact hP
  · rw [← hs]; exact hD
theorem an_126 (hx : p.tables.exec = Jvm.exec) (hb : c.code = cc) (hK : Kt G s) (hW : Wh G x y H) (hdg : decode cc pc = .ok (.arraylength, 1)) (kk : W p l e R s m args below meth c H locs cells slots Q (F0 m (pc + 1) ls (.int 30 :: rest))) : W p l e R s m args below meth c H locs cells slots Q (F0 m pc ls (.ref (gA G 126 0 0) :: rest)) := by
  obtain ⟨q0, h0, h2⟩ := wl_get (G := G) (x := x) (y := y) (id_126)
  exact va_alen hx hb hK.1 hW.1 q0 0 h2 rfl rfl hdg kk
theorem al_127 (hx : p.tables.exec = Jvm.exec) (hb : c.code = cc) (hK : Kt G s) (hW : Wh G x y H) {i : Int32} (hin : vp_in i 30) (hdg : decode cc pc = .ok (.iaload, 1)) (kk : W p l e R s m args below meth c H locs cells slots Q (F0 m (pc + 1) ls (.int (y 127 0 0 i.toNatClampNeg) :: rest))) : W p l e R s m args below meth c H locs cells slots Q (F0 m pc ls (.int i :: .ref (gA G 127 0 0) :: rest)) := by
  obtain ⟨q0, h0, h2⟩ := wl_get (G := G) (x := x) (y := y) (id_127)
  rw [(mm_r (by decide))] at h2
  exact va_iald hx hb hK.1 hW.1 q0 0 h2 rfl hin hdg kk
theorem as_127 (hx : p.tables.exec = Jvm.exec) (hb : c.code = cc) (hK : Kt G s) (hW : Wh G x y H) (hS : va_S (gF G) H0 H locs) {i v : Int32} (hin : vp_in i 30) (hdg : decode cc pc = .ok (.iastore, 1)) (kk : ∀ (H1 : Heap) (locs1 : List Loc), Wh G x (up4 y 127 0 0 i.toNatClampNeg v) H1 → va_S (gF G) H0 H1 locs1 → W p l e R s m args below meth c H1 locs1 cells slots Q (F0 m (pc + 1) ls rest)) : W p l e R s m args below meth c H locs cells slots Q (F0 m pc ls (.int v :: .int i :: .ref (gA G 127 0 0) :: rest)) := by
  obtain ⟨q0, h0, h2⟩ := wl_get (G := G) (x := x) (y := y) (id_127)
  rw [(mm_r (by decide))] at h2
  have hs := wl_set_r (G := G) (x := x) (y := y) (s := i.toNatClampNeg) (v := v) (by decide) hW.2 h0
  refine va_iast hx hb hK.1 hW.1 hW.2 hS q0 0 h2 rfl hin hdg (fun H1 locs1 hP hD hS => kk H1 locs1 ⟨?_, ?_⟩ hS)
  · rw [← hs]; exact hP
  · rw [← hs]; exact hD
theorem an_127 (hx : p.tables.exec = Jvm.exec) (hb : c.code = cc) (hK : Kt G s) (hW : Wh G x y H) (hdg : decode cc pc = .ok (.arraylength, 1)) (kk : W p l e R s m args below meth c H locs cells slots Q (F0 m (pc + 1) ls (.int 30 :: rest))) : W p l e R s m args below meth c H locs cells slots Q (F0 m pc ls (.ref (gA G 127 0 0) :: rest)) := by
  obtain ⟨q0, h0, h2⟩ := wl_get (G := G) (x := x) (y := y) (id_127)
  exact va_alen hx hb hK.1 hW.1 q0 0 h2 rfl rfl hdg kk
theorem al_128 (hx : p.tables.exec = Jvm.exec) (hb : c.code = cc) (hK : Kt G s) (hW : Wh G x y H) {i : Int32} (hin : vp_in i 30) (hdg : decode cc pc = .ok (.iaload, 1)) (kk : W p l e R s m args below meth c H locs cells slots Q (F0 m (pc + 1) ls (.int (y 128 0 0 i.toNatClampNeg) :: rest))) : W p l e R s m args below meth c H locs cells slots Q (F0 m pc ls (.int i :: .ref (gA G 128 0 0) :: rest)) := by
  obtain ⟨q0, h0, h2⟩ := wl_get (G := G) (x := x) (y := y) (id_128)
  rw [(mm_r (by decide))] at h2
  exact va_iald hx hb hK.1 hW.1 q0 0 h2 rfl hin hdg kk
theorem as_128 (hx : p.tables.exec = Jvm.exec) (hb : c.code = cc) (hK : Kt G s) (hW : Wh G x y H) (hS : va_S (gF G) H0 H locs) {i v : Int32} (hin : vp_in i 30) (hdg : decode cc pc = .ok (.iastore, 1)) (kk : ∀ (H1 : Heap) (locs1 : List Loc), Wh G x (up4 y 128 0 0 i.toNatClampNeg v) H1 → va_S (gF G) H0 H1 locs1 → W p l e R s m args below meth c H1 locs1 cells slots Q (F0 m (pc + 1) ls rest)) : W p l e R s m args below meth c H locs cells slots Q (F0 m pc ls (.int v :: .int i :: .ref (gA G 128 0 0) :: rest)) := by
  obtain ⟨q0, h0, h2⟩ := wl_get (G := G) (x := x) (y := y) (id_128)
  rw [(mm_r (by decide))] at h2
  have hs := wl_set_r (G := G) (x := x) (y := y) (s := i.toNatClampNeg) (v := v) (by decide) hW.2 h0
  refine va_iast hx hb hK.1 hW.1 hW.2 hS q0 0 h2 rfl hin hdg (fun H1 locs1 hP hD hS => kk H1 locs1 ⟨?_, ?_⟩ hS)
  · rw [← hs]; exact hP
  · rw [← hs]; exact hD
theorem an_128 (hx : p.tables.exec = Jvm.exec) (hb : c.code = cc) (hK : Kt G s) (hW : Wh G x y H) (hdg : decode cc pc = .ok (.arraylength, 1)) (kk : W p l e R s m args below meth c H locs cells slots Q (F0 m (pc + 1) ls (.int 30 :: rest))) : W p l e R s m args below meth c H locs cells slots Q (F0 m pc ls (.ref (gA G 128 0 0) :: rest)) := by
  obtain ⟨q0, h0, h2⟩ := wl_get (G := G) (x := x) (y := y) (id_128)
  exact va_alen hx hb hK.1 hW.1 q0 0 h2 rfl rfl hdg kk
theorem al_129 (hx : p.tables.exec = Jvm.exec) (hb : c.code = cc) (hK : Kt G s) (hW : Wh G x y H) {i : Int32} (hin : vp_in i 30) (hdg : decode cc pc = .ok (.iaload, 1)) (kk : W p l e R s m args below meth c H locs cells slots Q (F0 m (pc + 1) ls (.int (y 129 0 0 i.toNatClampNeg) :: rest))) : W p l e R s m args below meth c H locs cells slots Q (F0 m pc ls (.int i :: .ref (gA G 129 0 0) :: rest)) := by
  obtain ⟨q0, h0, h2⟩ := wl_get (G := G) (x := x) (y := y) (id_129)
  rw [(mm_r (by decide))] at h2
  exact va_iald hx hb hK.1 hW.1 q0 0 h2 rfl hin hdg kk
theorem as_129 (hx : p.tables.exec = Jvm.exec) (hb : c.code = cc) (hK : Kt G s) (hW : Wh G x y H) (hS : va_S (gF G) H0 H locs) {i v : Int32} (hin : vp_in i 30) (hdg : decode cc pc = .ok (.iastore, 1)) (kk : ∀ (H1 : Heap) (locs1 : List Loc), Wh G x (up4 y 129 0 0 i.toNatClampNeg v) H1 → va_S (gF G) H0 H1 locs1 → W p l e R s m args below meth c H1 locs1 cells slots Q (F0 m (pc + 1) ls rest)) : W p l e R s m args below meth c H locs cells slots Q (F0 m pc ls (.int v :: .int i :: .ref (gA G 129 0 0) :: rest)) := by
  obtain ⟨q0, h0, h2⟩ := wl_get (G := G) (x := x) (y := y) (id_129)
  rw [(mm_r (by decide))] at h2
  have hs := wl_set_r (G := G) (x := x) (y := y) (s := i.toNatClampNeg) (v := v) (by decide) hW.2 h0
  refine va_iast hx hb hK.1 hW.1 hW.2 hS q0 0 h2 rfl hin hdg (fun H1 locs1 hP hD hS => kk H1 locs1 ⟨?_, ?_⟩ hS)
  · rw [← hs]; exact hP
  · rw [← hs]; exact hD
theorem an_129 (hx : p.tables.exec = Jvm.exec) (hb : c.code = cc) (hK : Kt G s) (hW : Wh G x y H) (hdg : decode cc pc = .ok (.arraylength, 1)) (kk : W p l e R s m args below meth c H locs cells slots Q (F0 m (pc + 1) ls (.int 30 :: rest))) : W p l e R s m args below meth c H locs cells slots Q (F0 m pc ls (.ref (gA G 129 0 0) :: rest)) := by
  obtain ⟨q0, h0, h2⟩ := wl_get (G := G) (x := x) (y := y) (id_129)
  exact va_alen hx hb hK.1 hW.1 q0 0 h2 rfl rfl hdg kk
theorem al_130 (hx : p.tables.exec = Jvm.exec) (hb : c.code = cc) (hK : Kt G s) (hW : Wh G x y H) {i : Int32} (hin : vp_in i 30) (hdg : decode cc pc = .ok (.iaload, 1)) (kk : W p l e R s m args below meth c H locs cells slots Q (F0 m (pc + 1) ls (.int (y 130 0 0 i.toNatClampNeg) :: rest))) : W p l e R s m args below meth c H locs cells slots Q (F0 m pc ls (.int i :: .ref (gA G 130 0 0) :: rest)) := by
  obtain ⟨q0, h0, h2⟩ := wl_get (G := G) (x := x) (y := y) (id_130)
  rw [(mm_r (by decide))] at h2
  exact va_iald hx hb hK.1 hW.1 q0 0 h2 rfl hin hdg kk
theorem as_130 (hx : p.tables.exec = Jvm.exec) (hb : c.code = cc) (hK : Kt G s) (hW : Wh G x y H) (hS : va_S (gF G) H0 H locs) {i v : Int32} (hin : vp_in i 30) (hdg : decode cc pc = .ok (.iastore, 1)) (kk : ∀ (H1 : Heap) (locs1 : List Loc), Wh G x (up4 y 130 0 0 i.toNatClampNeg v) H1 → va_S (gF G) H0 H1 locs1 → W p l e R s m args below meth c H1 locs1 cells slots Q (F0 m (pc + 1) ls rest)) : W p l e R s m args below meth c H locs cells slots Q (F0 m pc ls (.int v :: .int i :: .ref (gA G 130 0 0) :: rest)) := by
  obtain ⟨q0, h0, h2⟩ := wl_get (G := G) (x := x) (y := y) (id_130)
  rw [(mm_r (by decide))] at h2
  have hs := wl_set_r (G := G) (x := x) (y := y) (s := i.toNatClampNeg) (v := v) (by decide) hW.2 h0
  refine va_iast hx hb hK.1 hW.1 hW.2 hS q0 0 h2 rfl hin hdg (fun H1 locs1 hP hD hS => kk H1 locs1 ⟨?_, ?_⟩ hS)
  · rw [← hs]; exact hP
  · rw [← hs]; exact hD
theorem an_130 (hx : p.tables.exec = Jvm.exec) (hb : c.code = cc) (hK : Kt G s) (hW : Wh G x y H) (hdg : decode cc pc = .ok (.arraylength, 1)) (kk : W p l e R s m args below meth c H locs cells slots Q (F0 m (pc + 1) ls (.int 30 :: rest))) : W p l e R s m args below meth c H locs cells slots Q (F0 m pc ls (.ref (gA G 130 0 0) :: rest)) := by
  obtain ⟨q0, h0, h2⟩ := wl_get (G := G) (x := x) (y := y) (id_130)
  exact va_alen hx hb hK.1 hW.1 q0 0 h2 rfl rfl hdg kk
theorem al_131 (hx : p.tables.exec = Jvm.exec) (hb : c.code = cc) (hK : Kt G s) (hW : Wh G x y H) {i : Int32} (hin : vp_in i 30) (hdg : decode cc pc = .ok (.iaload, 1)) (kk : W p l e R s m args below meth c H locs cells slots Q (F0 m (pc + 1) ls (.int (y 131 0 0 i.toNatClampNeg) :: rest))) : W p l e R s m args below meth c H locs cells slots Q (F0 m pc ls (.int i :: .ref (gA G 131 0 0) :: rest)) := by
  obtain ⟨q0, h0, h2⟩ := wl_get (G := G) (x := x) (y := y) (id_131)
  rw [(mm_r (by decide))] at h2
  exact va_iald hx hb hK.1 hW.1 q0 0 h2 rfl hin hdg kk
theorem as_131 (hx : p.tables.exec = Jvm.exec) (hb : c.code = cc) (hK : Kt G s) (hW : Wh G x y H) (hS : va_S (gF G) H0 H locs) {i v : Int32} (hin : vp_in i 30) (hdg : decode cc pc = .ok (.iastore, 1)) (kk : ∀ (H1 : Heap) (locs1 : List Loc), Wh G x (up4 y 131 0 0 i.toNatClampNeg v) H1 → va_S (gF G) H0 H1 locs1 → W p l e R s m args below meth c H1 locs1 cells slots Q (F0 m (pc + 1) ls rest)) : W p l e R s m args below meth c H locs cells slots Q (F0 m pc ls (.int v :: .int i :: .ref (gA G 131 0 0) :: rest)) := by
  obtain ⟨q0, h0, h2⟩ := wl_get (G := G) (x := x) (y := y) (id_131)
  rw [(mm_r (by decide))] at h2
  have hs := wl_set_r (G := G) (x := x) (y := y) (s := i.toNatClampNeg) (v := v) (by decide) hW.2 h0
  refine va_iast hx hb hK.1 hW.1 hW.2 hS q0 0 h2 rfl hin hdg (fun H1 locs1 hP hD hS => kk H1 locs1 ⟨?_, ?_⟩ hS)
  · rw [← hs]; exact hP
  · rw [← hs]; exact hD
theorem an_131 (hx : p.tables.exec = Jvm.exec) (hb : c.code = cc) (hK : Kt G s) (hW : Wh G x y H) (hdg : decode cc pc = .ok (.arraylength, 1)) (kk : W p l e R s m args below meth c H locs cells slots Q (F0 m (pc + 1) ls (.int 30 :: rest))) : W p l e R s m args below meth c H locs cells slots Q (F0 m pc ls (.ref (gA G 131 0 0) :: rest)) := by
  obtain ⟨q0, h0, h2⟩ := wl_get (G := G) (x := x) (y := y) (id_131)
  exact va_alen hx hb hK.1 hW.1 q0 0 h2 rfl rfl hdg kk
theorem al_132 (hx : p.tables.exec = Jvm.exec) (hb : c.code = cc) (hK : Kt G s) (hW : Wh G x y H) {i : Int32} (hin : vp_in i 96) (hdg : decode cc pc = .ok (.iaload, 1)) (kk : W p l e R s m args below meth c H locs cells slots Q (F0 m (pc + 1) ls (.int (y 132 0 0 i.toNatClampNeg) :: rest))) : W p l e R s m args below meth c H locs cells slots Q (F0 m pc ls (.int i :: .ref (gA G 132 0 0) :: rest)) := by
  obtain ⟨q0, h0, h2⟩ := wl_get (G := G) (x := x) (y := y) (id_132)
  rw [(mm_r (by decide))] at h2
  exact va_iald hx hb hK.1 hW.1 q0 0 h2 rfl hin hdg kk
theorem as_132 (hx : p.tables.exec = Jvm.exec) (hb : c.code = cc) (hK : Kt G s) (hW : Wh G x y H) (hS : va_S (gF G) H0 H locs) {i v : Int32} (hin : vp_in i 96) (hdg : decode cc pc = .ok (.iastore, 1)) (kk : ∀ (H1 : Heap) (locs1 : List Loc), Wh G x (up4 y 132 0 0 i.toNatClampNeg v) H1 → va_S (gF G) H0 H1 locs1 → W p l e R s m args below meth c H1 locs1 cells slots Q (F0 m (pc + 1) ls rest)) : W p l e R s m args below meth c H locs cells slots Q (F0 m pc ls (.int v :: .int i :: .ref (gA G 132 0 0) :: rest)) := by
  obtain ⟨q0, h0, h2⟩ := wl_get (G := G) (x := x) (y := y) (id_132)
  rw [(mm_r (by decide))] at h2
  have hs := wl_set_r (G := G) (x := x) (y := y) (s := i.toNatClampNeg) (v := v) (by decide) hW.2 h0
  refine va_iast hx hb hK.1 hW.1 hW.2 hS q0 0 h2 rfl hin hdg (fun H1 locs1 hP hD hS => kk H1 locs1 ⟨?_, ?_⟩ hS)
  · rw [← hs]; exact hP
  · rw [← hs]; exact hD
theorem an_132 (hx : p.tables.exec = Jvm.exec) (hb : c.code = cc) (hK : Kt G s) (hW : Wh G x y H) (hdg : decode cc pc = .ok (.arraylength, 1)) (kk : W p l e R s m args below meth c H locs cells slots Q (F0 m (pc + 1) ls (.int 96 :: rest))) : W p l e R s m args below meth c H locs cells slots Q (F0 m pc ls (.ref (gA G 132 0 0) :: rest)) := by
  obtain ⟨q0, h0, h2⟩ := wl_get (G := G) (x := x) (y := y) (id_132)
  exact va_alen hx hb hK.1 hW.1 q0 0 h2 rfl rfl hdg kk
theorem al_141 (hx : p.tables.exec = Jvm.exec) (hb : c.code = cc) (hK : Kt G s) (hW : Wh G x y H) {i : Int32} (hin : vp_in i 3) (hdg : decode cc pc = .ok (.iaload, 1)) (kk : W p l e R s m args below meth c H locs cells slots Q (F0 m (pc + 1) ls (.int (y 141 0 0 i.toNatClampNeg) :: rest))) : W p l e R s m args below meth c H locs cells slots Q (F0 m pc ls (.int i :: .ref (gA G 141 0 0) :: rest)) := by
  obtain ⟨q0, h0, h2⟩ := wl_get (G := G) (x := x) (y := y) (id_141)
  rw [(mm_r (by decide))] at h2
  exact va_iald hx hb hK.1 hW.1 q0 0 h2 rfl hin hdg kk
theorem as_141 (hx : p.tables.exec = Jvm.exec) (hb : c.code = cc) (hK : Kt G s) (hW : Wh G x y H) (hS : va_S (gF G) H0 H locs) {i v : Int32} (hin : vp_in i 3) (hdg : decode cc pc = .ok (.iastore, 1)) (kk : ∀ (H1 : Heap) (locs1 : List Loc), Wh G x (up4 y 141 0 0 i.toNatClampNeg v) H1 → va_S (gF G) H0 H1 locs1 → W p l e R s m args below meth c H1 locs1 cells slots Q (F0 m (pc + 1) ls rest)) : W p l e R s m args below meth c H locs cells slots Q (F0 m pc ls (.int v :: .int i :: .ref (gA G 141 0 0) :: rest)) := by
  obtain ⟨q0, h0, h2⟩ := wl_get (G := G) (x := x) (y := y) (id_141)
  rw [(mm_r (by decide))] at h2
  have hs := wl_set_r (G := G) (x := x) (y := y) (s := i.toNatClampNeg) (v := v) (by decide) hW.2 h0
  refine va_iast hx hb hK.1 hW.1 hW.2 hS q0 0 h2 rfl hin hdg (fun H1 locs1 hP hD hS => kk H1 locs1 ⟨?_, ?_⟩ hS)
  · rw [← hs]; exact hP
  · rw [← hs]; exact hD
theorem an_141 (hx : p.tables.exec = Jvm.exec) (hb : c.code = cc) (hK : Kt G s) (hW : Wh G x y H) (hdg : decode cc pc = .ok (.arraylength, 1)) (kk : W p l e R s m args below meth c H locs cells slots Q (F0 m (pc + 1) ls (.int 3 :: rest))) : W p l e R s m args below meth c H locs cells slots Q (F0 m pc ls (.ref (gA G 141 0 0) :: rest)) := by
  obtain ⟨q0, h0, h2⟩ := wl_get (G := G) (x := x) (y := y) (id_141)
  exact va_alen hx hb hK.1 hW.1 q0 0 h2 rfl rfl hdg kk
theorem al_142 (hx : p.tables.exec = Jvm.exec) (hb : c.code = cc) (hK : Kt G s) (hW : Wh G x y H) {i : Int32} (hin : vp_in i 3) (hdg : decode cc pc = .ok (.iaload, 1)) (kk : W p l e R s m args below meth c H locs cells slots Q (F0 m (pc + 1) ls (.int (y 142 0 0 i.toNatClampNeg) :: rest))) : W p l e R s m args below meth c H locs cells slots Q (F0 m pc ls (.int i :: .ref (gA G 142 0 0) :: rest)) := by
  obtain ⟨q0, h0, h2⟩ := wl_get (G := G) (x := x) (y := y) (id_142)
  rw [(mm_r (by decide))] at h2
  exact va_iald hx hb hK.1 hW.1 q0 0 h2 rfl hin hdg kk
theorem as_142 (hx : p.tables.exec = Jvm.exec) (hb : c.code = cc) (hK : Kt G s) (hW : Wh G x y H) (hS : va_S (gF G) H0 H locs) {i v : Int32} (hin : vp_in i 3) (hdg : decode cc pc = .ok (.iastore, 1)) (kk : ∀ (H1 : Heap) (locs1 : List Loc), Wh G x (up4 y 142 0 0 i.toNatClampNeg v) H1 → va_S (gF G) H0 H1 locs1 → W p l e R s m args below meth c H1 locs1 cells slots Q (F0 m (pc + 1) ls rest)) : W p l e R s m args below meth c H locs cells slots Q (F0 m pc ls (.int v :: .int i :: .ref (gA G 142 0 0) :: rest)) := by
  obtain ⟨q0, h0, h2⟩ := wl_get (G := G) (x := x) (y := y) (id_142)
  rw [(mm_r (by decide))] at h2
  have hs := wl_set_r (G := G) (x := x) (y := y) (s := i.toNatClampNeg) (v := v) (by decide) hW.2 h0
  refine va_iast hx hb hK.1 hW.1 hW.2 hS q0 0 h2 rfl hin hdg (fun H1 locs1 hP hD hS => kk H1 locs1 ⟨?_, ?_⟩ hS)
  · rw [← hs]; exact hP
  · rw [← hs]; exact hD
theorem an_142 (hx : p.tables.exec = Jvm.exec) (hb : c.code = cc) (hK : Kt G s) (hW : Wh G x y H) (hdg : decode cc pc = .ok (.arraylength, 1)) (kk : W p l e R s m args below meth c H locs cells slots Q (F0 m (pc + 1) ls (.int 3 :: rest))) : W p l e R s m args below meth c H locs cells slots Q (F0 m pc ls (.ref (gA G 142 0 0) :: rest)) := by
  obtain ⟨q0, h0, h2⟩ := wl_get (G := G) (x := x) (y := y) (id_142)
  exact va_alen hx hb hK.1 hW.1 q0 0 h2 rfl rfl hdg kk
theorem al_143 (hx : p.tables.exec = Jvm.exec) (hb : c.code = cc) (hK : Kt G s) (hW : Wh G x y H) {i : Int32} (hin : vp_in i 3) (hdg : decode cc pc = .ok (.iaload, 1)) (kk : W p l e R s m args below meth c H locs cells slots Q (F0 m (pc + 1) ls (.int (y 143 0 0 i.toNatClampNeg) :: rest))) : W p l e R s m args below meth c H locs cells slots Q (F0 m pc ls (.int i :: .ref (gA G 143 0 0) :: rest)) := by
  obtain ⟨q0, h0, h2⟩ := wl_get (G := G) (x := x) (y := y) (id_143)
  rw [(mm_r (by decide))] at h2
  exact va_iald hx hb hK.1 hW.1 q0 0 h2 rfl hin hdg kk
theorem as_143 (hx : p.tables.exec = Jvm.exec) (hb : c.code = cc) (hK : Kt G s) (hW : Wh G x y H) (hS : va_S (gF G) H0 H locs) {i v : Int32} (hin : vp_in i 3) (hdg : decode cc pc = .ok (.iastore, 1)) (kk : ∀ (H1 : Heap) (locs1 : List Loc), Wh G x (up4 y 143 0 0 i.toNatClampNeg v) H1 → va_S (gF G) H0 H1 locs1 → W p l e R s m args below meth c H1 locs1 cells slots Q (F0 m (pc + 1) ls rest)) : W p l e R s m args below meth c H locs cells slots Q (F0 m pc ls (.int v :: .int i :: .ref (gA G 143 0 0) :: rest)) := by
  obtain ⟨q0, h0, h2⟩ := wl_get (G := G) (x := x) (y := y) (id_143)
  rw [(mm_r (by decide))] at h2
  have hs := wl_set_r (G := G) (x := x) (y := y) (s := i.toNatClampNeg) (v := v) (by decide) hW.2 h0
  refine va_iast hx hb hK.1 hW.1 hW.2 hS q0 0 h2 rfl hin hdg (fun H1 locs1 hP hD hS => kk H1 locs1 ⟨?_, ?_⟩ hS)
  · rw [← hs]; exact hP
  · rw [← hs]; exact hD
theorem an_143 (hx : p.tables.exec = Jvm.exec) (hb : c.code = cc) (hK : Kt G s) (hW : Wh G x y H) (hdg : decode cc pc = .ok (.arraylength, 1)) (kk : W p l e R s m args below meth c H locs cells slots Q (F0 m (pc + 1) ls (.int 3 :: rest))) : W p l e R s m args below meth c H locs cells slots Q (F0 m pc ls (.ref (gA G 143 0 0) :: rest)) := by
  obtain ⟨q0, h0, h2⟩ := wl_get (G := G) (x := x) (y := y) (id_143)
  exact va_alen hx hb hK.1 hW.1 q0 0 h2 rfl rfl hdg kk
theorem al_147 (hx : p.tables.exec = Jvm.exec) (hb : c.code = cc) (hK : Kt G s) (hW : Wh G x y H) {i : Int32} (hin : vp_in i 3) (hdg : decode cc pc = .ok (.iaload, 1)) (kk : W p l e R s m args below meth c H locs cells slots Q (F0 m (pc + 1) ls (.int (y 147 0 0 i.toNatClampNeg) :: rest))) : W p l e R s m args below meth c H locs cells slots Q (F0 m pc ls (.int i :: .ref (gA G 147 0 0) :: rest)) := by
  obtain ⟨q0, h0, h2⟩ := wl_get (G := G) (x := x) (y := y) (id_147)
  rw [(mm_r (by decide))] at h2
  exact va_iald hx hb hK.1 hW.1 q0 0 h2 rfl hin hdg kk
theorem as_147 (hx : p.tables.exec = Jvm.exec) (hb : c.code = cc) (hK : Kt G s) (hW : Wh G x y H) (hS : va_S (gF G) H0 H locs) {i v : Int32} (hin : vp_in i 3) (hdg : decode cc pc = .ok (.iastore, 1)) (kk : ∀ (H1 : Heap) (locs1 : List Loc), Wh G x (up4 y 147 0 0 i.toNatClampNeg v) H1 → va_S (gF G) H0 H1 locs1 → W p l e R s m args below meth c H1 locs1 cells slots Q (F0 m (pc + 1) ls rest)) : W p l e R s m args below meth c H locs cells slots Q (F0 m pc ls (.int v :: .int i :: .ref (gA G 147 0 0) :: rest)) := by
  obtain ⟨q0, h0, h2⟩ := wl_get (G := G) (x := x) (y := y) (id_147)
  rw [(mm_r (by decide))] at h2
  have hs := wl_set_r (G := G) (x := x) (y := y) (s := i.toNatClampNeg) (v := v) (by decide) hW.2 h0
  refine va_iast hx hb hK.1 hW.1 hW.2 hS q0 0 h2 rfl hin hdg (fun H1 locs1 hP hD hS => kk H1 locs1 ⟨?_, ?_⟩ hS)
  · rw [← hs]; exact hP
  · rw [← hs]; exact hD
theorem an_147 (hx : p.tables.exec = Jvm.exec) (hb : c.code = cc) (hK : Kt G s) (hW : Wh G x y H) (hdg : decode cc pc = .ok (.arraylength, 1)) (kk : W p l e R s m args below meth c H locs cells slots Q (F0 m (pc + 1) ls (.int 3 :: rest))) : W p l e R s m args below meth c H locs cells slots Q (F0 m pc ls (.ref (gA G 147 0 0) :: rest)) := by
  obtain ⟨q0, h0, h2⟩ := wl_get (G := G) (x := x) (y := y) (id_147)
  exact va_alen hx hb hK.1 hW.1 q0 0 h2 rfl rfl hdg kk
theorem al_148 (hx : p.tables.exec = Jvm.exec) (hb : c.code = cc) (hK : Kt G s) (hW : Wh G x y H) {i : Int32} (hin : vp_in i 80) (hdg : decode cc pc = .ok (.iaload, 1)) (kk : W p l e R s m args below meth c H locs cells slots Q (F0 m (pc + 1) ls (.int (y 148 0 0 i.toNatClampNeg) :: rest))) : W p l e R s m args below meth c H locs cells slots Q (F0 m pc ls (.int i :: .ref (gA G 148 0 0) :: rest)) := by
  obtain ⟨q0, h0, h2⟩ := wl_get (G := G) (x := x) (y := y) (id_148)
  rw [(mm_r (by decide))] at h2
  exact va_iald hx hb hK.1 hW.1 q0 0 h2 rfl hin hdg kk
theorem as_148 (hx : p.tables.exec = Jvm.exec) (hb : c.code = cc) (hK : Kt G s) (hW : Wh G x y H) (hS : va_S (gF G) H0 H locs) {i v : Int32} (hin : vp_in i 80) (hdg : decode cc pc = .ok (.iastore, 1)) (kk : ∀ (H1 : Heap) (locs1 : List Loc), Wh G x (up4 y 148 0 0 i.toNatClampNeg v) H1 → va_S (gF G) H0 H1 locs1 → W p l e R s m args below meth c H1 locs1 cells slots Q (F0 m (pc + 1) ls rest)) : W p l e R s m args below meth c H locs cells slots Q (F0 m pc ls (.int v :: .int i :: .ref (gA G 148 0 0) :: rest)) := by
  obtain ⟨q0, h0, h2⟩ := wl_get (G := G) (x := x) (y := y) (id_148)
  rw [(mm_r (by decide))] at h2
  have hs := wl_set_r (G := G) (x := x) (y := y) (s := i.toNatClampNeg) (v := v) (by decide) hW.2 h0
  refine va_iast hx hb hK.1 hW.1 hW.2 hS q0 0 h2 rfl hin hdg (fun H1 locs1 hP hD hS => kk H1 locs1 ⟨?_, ?_⟩ hS)
  · rw [← hs]; exact hP
  · rw [← hs]; exact hD
theorem an_148 (hx : p.tables.exec = Jvm.exec) (hb : c.code = cc) (hK : Kt G s) (hW : Wh G x y H) (hdg : decode cc pc = .ok (.arraylength, 1)) (kk : W p l e R s m args below meth c H locs cells slots Q (F0 m (pc + 1) ls (.int 80 :: rest))) : W p l e R s m args below meth c H locs cells slots Q (F0 m pc ls (.ref (gA G 148 0 0) :: rest)) := by
  obtain ⟨q0, h0, h2⟩ := wl_get (G := G) (x := x) (y := y) (id_148)
  exact va_alen hx hb hK.1 hW.1 q0 0 h2 rfl rfl hdg kk
theorem al_149 (hx : p.tables.exec = Jvm.exec) (hb : c.code = cc) (hK : Kt G s) (hW : Wh G x y H) {i : Int32} (hin : vp_in i 40) (hdg : decode cc pc = .ok (.iaload, 1)) (kk : W p l e R s m args below meth c H locs cells slots Q (F0 m (pc + 1) ls (.int (y 149 0 0 i.toNatClampNeg) :: rest))) : W p l e R s m args below meth c H locs cells slots Q (F0 m pc ls (.int i :: .ref (gA G 149 0 0) :: rest)) := by
  obtain ⟨q0, h0, h2⟩ := wl_get (G := G) (x := x) (y := y) (id_149)
  rw [(mm_r (by decide))] at h2
  exact va_iald hx hb hK.1 hW.1 q0 0 h2 rfl hin hdg kk
theorem as_149 (hx : p.tables.exec = Jvm.exec) (hb : c.code = cc) (hK : Kt G s) (hW : Wh G x y H) (hS : va_S (gF G) H0 H locs) {i v : Int32} (hin : vp_in i 40) (hdg : decode cc pc = .ok (.iastore, 1)) (kk : ∀ (H1 : Heap) (locs1 : List Loc), Wh G x (up4 y 149 0 0 i.toNatClampNeg v) H1 → va_S (gF G) H0 H1 locs1 → W p l e R s m args below meth c H1 locs1 cells slots Q (F0 m (pc + 1) ls rest)) : W p l e R s m args below meth c H locs cells slots Q (F0 m pc ls (.int v :: .int i :: .ref (gA G 149 0 0) :: rest)) := by
  obtain ⟨q0, h0, h2⟩ := wl_get (G := G) (x := x) (y := y) (id_149)
  rw [(mm_r (by decide))] at h2
  have hs := wl_set_r (G := G) (x := x) (y := y) (s := i.toNatClampNeg) (v := v) (by decide) hW.2 h0
  refine va_iast hx hb hK.1 hW.1 hW.2 hS q0 0 h2 rfl hin hdg (fun H1 locs1 hP hD hS => kk H1 locs1 ⟨?_, ?_⟩ hS)
  · rw [← hs]; exact hP
  · rw [← hs]; exact hD
theorem an_149 (hx : p.tables.exec = Jvm.exec) (hb : c.code = cc) (hK : Kt G s) (hW : Wh G x y H) (hdg : decode cc pc = .ok (.arraylength, 1)) (kk : W p l e R s m args below meth c H locs cells slots Q (F0 m (pc + 1) ls (.int 40 :: rest))) : W p l e R s m args below meth c H locs cells slots Q (F0 m pc ls (.ref (gA G 149 0 0) :: rest)) := by
  obtain ⟨q0, h0, h2⟩ := wl_get (G := G) (x := x) (y := y) (id_149)
  exact va_alen hx hb hK.1 hW.1 q0 0 h2 rfl rfl hdg kk
theorem al_150 (hx : p.tables.exec = Jvm.exec) (hb : c.code = cc) (hK : Kt G s) (hW : Wh G x y H) {i : Int32} (hin : vp_in i 240) (hdg : decode cc pc = .ok (.iaload, 1)) (kk : W p l e R s m args below meth c H locs cells slots Q (F0 m (pc + 1) ls (.int (y 150 0 0 i.toNatClampNeg) :: rest))) : W p l e R s m args below meth c H locs cells slots Q (F0 m pc ls (.int i :: .ref (gA G 150 0 0) :: rest)) := by
  obtain ⟨q0, h0, h2⟩ := wl_get (G := G) (x := x) (y := y) (id_150)
  rw [(mm_r (by decide))] at h2
  exact va_iald hx hb hK.1 hW.1 q0 0 h2 rfl hin hdg kk
theorem as_150 (hx : p.tables.exec = Jvm.exec) (hb : c.code = cc) (hK : Kt G s) (hW : Wh G x y H) (hS : va_S (gF G) H0 H locs) {i v : Int32} (hin : vp_in i 240) (hdg : decode cc pc = .ok (.iastore, 1)) (kk : ∀ (H1 : Heap) (locs1 : List Loc), Wh G x (up4 y 150 0 0 i.toNatClampNeg v) H1 → va_S (gF G) H0 H1 locs1 → W p l e R s m args below meth c H1 locs1 cells slots Q (F0 m (pc + 1) ls rest)) : W p l e R s m args below meth c H locs cells slots Q (F0 m pc ls (.int v :: .int i :: .ref (gA G 150 0 0) :: rest)) := by
  obtain ⟨q0, h0, h2⟩ := wl_get (G := G) (x := x) (y := y) (id_150)
  rw [(mm_r (by decide))] at h2
  have hs := wl_set_r (G := G) (x := x) (y := y) (s := i.toNatClampNeg) (v := v) (by decide) hW.2 h0
  refine va_iast hx hb hK.1 hW.1 hW.2 hS q0 0 h2 rfl hin hdg (fun H1 locs1 hP hD hS => kk H1 locs1 ⟨?_, ?_⟩ hS)
  · rw [← hs]; exact hP
  · rw [← hs]; exact hD
theorem an_150 (hx : p.tables.exec = Jvm.exec) (hb : c.code = cc) (hK : Kt G s) (hW : Wh G x y H) (hdg : decode cc pc = .ok (.arraylength, 1)) (kk : W p l e R s m args below meth c H locs cells slots Q (F0 m (pc + 1) ls (.int 240 :: rest))) : W p l e R s m args below meth c H locs cells slots Q (F0 m pc ls (.ref (gA G 150 0 0) :: rest)) := by
  obtain ⟨q0, h0, h2⟩ := wl_get (G := G) (x := x) (y := y) (id_150)
  exact va_alen hx hb hK.1 hW.1 q0 0 h2 rfl rfl hdg kk
theorem al_155 (hx : p.tables.exec = Jvm.exec) (hb : c.code = cc) (hK : Kt G s) (hW : Wh G x y H) {i : Int32} (hin : vp_in i 3438) (hdg : decode cc pc = .ok (.iaload, 1)) (kk : W p l e R s m args below meth c H locs cells slots Q (F0 m (pc + 1) ls (.int (y 155 0 0 i.toNatClampNeg) :: rest))) : W p l e R s m args below meth c H locs cells slots Q (F0 m pc ls (.int i :: .ref (gA G 155 0 0) :: rest)) := by
  obtain ⟨q0, h0, h2⟩ := wl_get (G := G) (x := x) (y := y) (id_155)
  rw [(mm_r (by decide))] at h2
  exact va_iald hx hb hK.1 hW.1 q0 0 h2 rfl hin hdg kk
theorem as_155 (hx : p.tables.exec = Jvm.exec) (hb : c.code = cc) (hK : Kt G s) (hW : Wh G x y H) (hS : va_S (gF G) H0 H locs) {i v : Int32} (hin : vp_in i 3438) (hdg : decode cc pc = .ok (.iastore, 1)) (kk : ∀ (H1 : Heap) (locs1 : List Loc), Wh G x (up4 y 155 0 0 i.toNatClampNeg v) H1 → va_S (gF G) H0 H1 locs1 → W p l e R s m args below meth c H1 locs1 cells slots Q (F0 m (pc + 1) ls rest)) : W p l e R s m args below meth c H locs cells slots Q (F0 m pc ls (.int v :: .int i :: .ref (gA G 155 0 0) :: rest)) := by
  obtain ⟨q0, h0, h2⟩ := wl_get (G := G) (x := x) (y := y) (id_155)
  rw [(mm_r (by decide))] at h2
  have hs := wl_set_r (G := G) (x := x) (y := y) (s := i.toNatClampNeg) (v := v) (by decide) hW.2 h0
  refine va_iast hx hb hK.1 hW.1 hW.2 hS q0 0 h2 rfl hin hdg (fun H1 locs1 hP hD hS => kk H1 locs1 ⟨?_, ?_⟩ hS)
  · rw [← hs]; exact hP
  · rw [← hs]; exact hD
theorem an_155 (hx : p.tables.exec = Jvm.exec) (hb : c.code = cc) (hK : Kt G s) (hW : Wh G x y H) (hdg : decode cc pc = .ok (.arraylength, 1)) (kk : W p l e R s m args below meth c H locs cells slots Q (F0 m (pc + 1) ls (.int 3438 :: rest))) : W p l e R s m args below meth c H locs cells slots Q (F0 m pc ls (.ref (gA G 155 0 0) :: rest)) := by
  obtain ⟨q0, h0, h2⟩ := wl_get (G := G) (x := x) (y := y) (id_155)
  exact va_alen hx hb hK.1 hW.1 q0 0 h2 rfl rfl hdg kk
theorem al_156 (hx : p.tables.exec = Jvm.exec) (hb : c.code = cc) (hK : Kt G s) (hW : Wh G x y H) {i : Int32} (hin : vp_in i 573) (hdg : decode cc pc = .ok (.iaload, 1)) (kk : W p l e R s m args below meth c H locs cells slots Q (F0 m (pc + 1) ls (.int (y 156 0 0 i.toNatClampNeg) :: rest))) : W p l e R s m args below meth c H locs cells slots Q (F0 m pc ls (.int i :: .ref (gA G 156 0 0) :: rest)) := by
  obtain ⟨q0, h0, h2⟩ := wl_get (G := G) (x := x) (y := y) (id_156)
  rw [(mm_r (by decide))] at h2
  exact va_iald hx hb hK.1 hW.1 q0 0 h2 rfl hin hdg kk
theorem as_156 (hx : p.tables.exec = Jvm.exec) (hb : c.code = cc) (hK : Kt G s) (hW : Wh G x y H) (hS : va_S (gF G) H0 H locs) {i v : Int32} (hin : vp_in i 573) (hdg : decode cc pc = .ok (.iastore, 1)) (kk : ∀ (H1 : Heap) (locs1 : List Loc), Wh G x (up4 y 156 0 0 i.toNatClampNeg v) H1 → va_S (gF G) H0 H1 locs1 → W p l e R s m args below meth c H1 locs1 cells slots Q (F0 m (pc + 1) ls rest)) : W p l e R s m args below meth c H locs cells slots Q (F0 m pc ls (.int v :: .int i :: .ref (gA G 156 0 0) :: rest)) := by
  obtain ⟨q0, h0, h2⟩ := wl_get (G := G) (x := x) (y := y) (id_156)
  rw [(mm_r (by decide))] at h2
  have hs := wl_set_r (G := G) (x := x) (y := y) (s := i.toNatClampNeg) (v := v) (by decide) hW.2 h0
  refine va_iast hx hb hK.1 hW.1 hW.2 hS q0 0 h2 rfl hin hdg (fun H1 locs1 hP hD hS => kk H1 locs1 ⟨?_, ?_⟩ hS)
  · rw [← hs]; exact hP
  · rw [← hs]; exact hD
theorem an_156 (hx : p.tables.exec = Jvm.exec) (hb : c.code = cc) (hK : Kt G s) (hW : Wh G x y H) (hdg : decode cc pc = .ok (.arraylength, 1)) (kk : W p l e R s m args below meth c H locs cells slots Q (F0 m (pc + 1) ls (.int 573 :: rest))) : W p l e R s m args below meth c H locs cells slots Q (F0 m pc ls (.ref (gA G 156 0 0) :: rest)) := by
  obtain ⟨q0, h0, h2⟩ := wl_get (G := G) (x := x) (y := y) (id_156)
  exact va_alen hx hb hK.1 hW.1 q0 0 h2 rfl rfl hdg kk
theorem al_157 (hx : p.tables.exec = Jvm.exec) (hb : c.code = cc) (hK : Kt G s) (hW : Wh G x y H) {i : Int32} (hin : vp_in i 573) (hdg : decode cc pc = .ok (.iaload, 1)) (kk : W p l e R s m args below meth c H locs cells slots Q (F0 m (pc + 1) ls (.int (y 157 0 0 i.toNatClampNeg) :: rest))) : W p l e R s m args below meth c H locs cells slots Q (F0 m pc ls (.int i :: .ref (gA G 157 0 0) :: rest)) := by
  obtain ⟨q0, h0, h2⟩ := wl_get (G := G) (x := x) (y := y) (id_157)
  rw [(mm_r (by decide))] at h2
  exact va_iald hx hb hK.1 hW.1 q0 0 h2 rfl hin hdg kk
theorem as_157 (hx : p.tables.exec = Jvm.exec) (hb : c.code = cc) (hK : Kt G s) (hW : Wh G x y H) (hS : va_S (gF G) H0 H locs) {i v : Int32} (hin : vp_in i 573) (hdg : decode cc pc = .ok (.iastore, 1)) (kk : ∀ (H1 : Heap) (locs1 : List Loc), Wh G x (up4 y 157 0 0 i.toNatClampNeg v) H1 → va_S (gF G) H0 H1 locs1 → W p l e R s m args below meth c H1 locs1 cells slots Q (F0 m (pc + 1) ls rest)) : W p l e R s m args below meth c H locs cells slots Q (F0 m pc ls (.int v :: .int i :: .ref (gA G 157 0 0) :: rest)) := by
  obtain ⟨q0, h0, h2⟩ := wl_get (G := G) (x := x) (y := y) (id_157)
  rw [(mm_r (by decide))] at h2
  have hs := wl_set_r (G := G) (x := x) (y := y) (s := i.toNatClampNeg) (v := v) (by decide) hW.2 h0
  refine va_iast hx hb hK.1 hW.1 hW.2 hS q0 0 h2 rfl hin hdg (fun H1 locs1 hP hD hS => kk H1 locs1 ⟨?_, ?_⟩ hS)
  · rw [← hs]; exact hP
  · rw [← hs]; exact hD
theorem an_157 (hx : p.tables.exec = Jvm.exec) (hb : c.code = cc) (hK : Kt G s) (hW : Wh G x y H) (hdg : decode cc pc = .ok (.arraylength, 1)) (kk : W p l e R s m args below meth c H locs cells slots Q (F0 m (pc + 1) ls (.int 573 :: rest))) : W p l e R s m args below meth c H locs cells slots Q (F0 m pc ls (.ref (gA G 157 0 0) :: rest)) := by
  obtain ⟨q0, h0, h2⟩ := wl_get (G := G) (x := x) (y := y) (id_157)
  exact va_alen hx hb hK.1 hW.1 q0 0 h2 rfl rfl hdg kk
theorem al_158 (hx : p.tables.exec = Jvm.exec) (hb : c.code = cc) (hK : Kt G s) (hW : Wh G x y H) {i : Int32} (hin : vp_in i 573) (hdg : decode cc pc = .ok (.iaload, 1)) (kk : W p l e R s m args below meth c H locs cells slots Q (F0 m (pc + 1) ls (.int (y 158 0 0 i.toNatClampNeg) :: rest))) : W p l e R s m args below meth c H locs cells slots Q (F0 m pc ls (.int i :: .ref (gA G 158 0 0) :: rest)) := by
  obtain ⟨q0, h0, h2⟩ := wl_get (G := G) (x := x) (y := y) (id_158)
  rw [(mm_r (by decide))] at h2
  exact va_iald hx hb hK.1 hW.1 q0 0 h2 rfl hin hdg kk
theorem as_158 (hx : p.tables.exec = Jvm.exec) (hb : c.code = cc) (hK : Kt G s) (hW : Wh G x y H) (hS : va_S (gF G) H0 H locs) {i v : Int32} (hin : vp_in i 573) (hdg : decode cc pc = .ok (.iastore, 1)) (kk : ∀ (H1 : Heap) (locs1 : List Loc), Wh G x (up4 y 158 0 0 i.toNatClampNeg v) H1 → va_S (gF G) H0 H1 locs1 → W p l e R s m args below meth c H1 locs1 cells slots Q (F0 m (pc + 1) ls rest)) : W p l e R s m args below meth c H locs cells slots Q (F0 m pc ls (.int v :: .int i :: .ref (gA G 158 0 0) :: rest)) := by
  obtain ⟨q0, h0, h2⟩ := wl_get (G := G) (x := x) (y := y) (id_158)
  rw [(mm_r (by decide))] at h2
  have hs := wl_set_r (G := G) (x := x) (y := y) (s := i.toNatClampNeg) (v := v) (by decide) hW.2 h0
  refine va_iast hx hb hK.1 hW.1 hW.2 hS q0 0 h2 rfl hin hdg (fun H1 locs1 hP hD hS => kk H1 locs1 ⟨?_, ?_⟩ hS)
  · rw [← hs]; exact hP
  · rw [← hs]; exact hD
theorem an_158 (hx : p.tables.exec = Jvm.exec) (hb : c.code = cc) (hK : Kt G s) (hW : Wh G x y H) (hdg : decode cc pc = .ok (.arraylength, 1)) (kk : W p l e R s m args below meth c H locs cells slots Q (F0 m (pc + 1) ls (.int 573 :: rest))) : W p l e R s m args below meth c H locs cells slots Q (F0 m pc ls (.ref (gA G 158 0 0) :: rest)) := by
  obtain ⟨q0, h0, h2⟩ := wl_get (G := G) (x := x) (y := y) (id_158)
  exact va_alen hx hb hK.1 hW.1 q0 0 h2 rfl rfl hdg kk
end RG
