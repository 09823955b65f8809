/-! THE START: what the tables say of the entry; addresses; the walk to the loop -/
theorem tb_at {w : Cond} (i : Nat) (h : lw_tbl[i]? = some w) : w ∈ lw_tbl := List.mem_of_getElem? h
theorem st_J0 : ∀ w ∈ u_ws RJ0 TJ0 2, w ∈ lw_tbl := by decide +kernel
theorem st_Jx : ∀ w ∈ u_ws RJx00060 TJx00060 6, w ∈ lw_tbl := by decide +kernel
theorem st_D {A : Array Value} {s : State} (hts : ∀ w ∈ lw_tbl, w.before A s = true) : ∃ D : va_G, ∀ (k : Nat) (q : vw_C), vwCl[k]? = some q → u_Kn s q.1 q.2.1 q.2.2 (D.1 k) (D.2 k) := by
  obtain ⟨c0, i0, h0⟩ := u_known (C := RJ0) (T := TJ0) (N := 2) (n := 4) hts st_J0 (hts (.instantiable RJ0 4) (tb_at 663 (by decide +kernel)))
  obtain ⟨c1, i1, h1⟩ := u_known (C := RJx00060) (T := TJx00060) (N := 6) (n := 6) hts st_Jx (hts (.instantiable RJx00060 6) (tb_at 590 (by decide +kernel)))
  obtain ⟨c2, i2, h2⟩ := u_known (C := RX0) (T := TX0) (N := 14) (n := 14) hts tb_X0 (hts (.instantiable RX0 14) (tb_at 140 (by decide +kernel)))
  obtain ⟨c3, i3, h3⟩ := u_known (C := RX1) (T := TX1) (N := 15) (n := 15) hts tb_X1 (hts (.instantiable RX1 15) (tb_at 103 (by decide +kernel)))
  obtain ⟨c4, i4, h4⟩ := u_known (C := RX2) (T := TX2) (N := 10) (n := 10) hts tb_X2 (hts (.instantiable RX2 10) (tb_at 416 (by decide +kernel)))
  obtain ⟨c5, i5, h5⟩ := u_known (C := RX3) (T := TX3) (N := 7) (n := 7) hts tb_X3 (hts (.instantiable RX3 7) (tb_at 410 (by decide +kernel)))
  obtain ⟨c6, i6, h6⟩ := u_known (C := RX4) (T := TX4) (N := 4) (n := 4) hts tb_X4 (hts (.instantiable RX4 4) (tb_at 353 (by decide +kernel)))
  obtain ⟨c7, i7, h7⟩ := u_known (C := RX5) (T := TX5) (N := 10) (n := 10) hts tb_X5 (hts (.instantiable RX5 10) (tb_at 246 (by decide +kernel)))
  obtain ⟨c8, i8, h8⟩ := u_known (C := RX6) (T := TX6) (N := 4) (n := 4) hts tb_X6 (hts (.instantiable RX6 4) (tb_at 382 (by decide +kernel)))
  obtain ⟨c9, i9, h9⟩ := u_known (C := RX7) (T := TX7) (N := 2) (n := 2) hts tb_X7 (hts (.instantiable RX7 2) (tb_at 127 (by decide +kernel)))
  obtain ⟨c10, i10, h10⟩ := u_known (C := RX8) (T := TX8) (N := 2) (n := 2) hts tb_X8 (hts (.instantiable RX8 2) (tb_at 376 (by decide +kernel)))
  obtain ⟨c11, i11, h11⟩ := u_known (C := RX9) (T := TX9) (N := 7) (n := 7) hts tb_X9 (hts (.instantiable RX9 7) (tb_at 213 (by decide +kernel)))
  obtain ⟨c12, i12, h12⟩ := u_known (C := RX10) (T := TX10) (N := 3) (n := 3) hts tb_X10 (hts (.instantiable RX10 3) (tb_at 109 (by decide +kernel)))
  obtain ⟨c13, i13, h13⟩ := u_known (C := RX11) (T := TX11) (N := 7) (n := 7) hts tb_X11 (hts (.instantiable RX11 7) (tb_at 95 (by decide +kernel)))
  obtain ⟨c14, i14, h14⟩ := u_known (C := RX12) (T := TX12) (N := 63) (n := 63) hts tb_X12 (hts (.instantiable RX12 63) (tb_at 1320 (by decide +kernel)))
  refine ⟨(fun k => match k with | 0 => c0 | 1 => c1 | 2 => c2 | 3 => c3 | 4 => c4 | 5 => c5 | 6 => c6 | 7 => c7 | 8 => c8 | 9 => c9 | 10 => c10 | 11 => c11 | 12 => c12 | 13 => c13 | 14 => c14 | _ => c0, fun k => match k with | 0 => i0 | 1 => i1 | 2 => i2 | 3 => i3 | 4 => i4 | 5 => i5 | 6 => i6 | 7 => i7 | 8 => i8 | 9 => i9 | 10 => i10 | 11 => i11 | 12 => i12 | 13 => i13 | 14 => i14 | _ => i0), fun k q hq => ?_⟩
  match k, hq with
  | 0, hq => cases hq; exact h0
  | 1, hq => cases hq; exact h1
  | 2, hq => cases hq; exact h2
  | 3, hq => cases hq; exact h3
  | 4, hq => cases hq; exact h4
  | 5, hq => cases hq; exact h5
  | 6, hq => cases hq; exact h6
  | 7, hq => cases hq; exact h7
  | 8, hq => cases hq; exact h8
  | 9, hq => cases hq; exact h9
  | 10, hq => cases hq; exact h10
  | 11, hq => cases hq; exact h11
  | 12, hq => cases hq; exact h12
  | 13, hq => cases hq; exact h13
  | 14, hq => cases hq; exact h14
  | k + 15, hq => exact absurd (List.getElem?_eq_some_iff.mp hq).1 (by simp)
theorem st_arr {A : Array Value} {s : State} {ty : FieldType} (hty : ∀ C, ty ≠ .object C) (h : (Cond.arrayClass ty).before A s = true) : ∃ c : ClassId, ArrOfT s c ty ∧ va_RA s c ty := by
  obtain ⟨c, k, comp, h1, h2, h3⟩ := Cond.arrayClass_spec h
  refine ⟨c, fun n z => ⟨?_, k, h2, comp, h3⟩, ?_⟩
  · intro q h; cases h
  · unfold va_RA
    split
    · exact absurd rfl (hty _)
    · exact h1
theorem st_over {A : Array Value} {s : State} {C : String} (h : (Cond.arrayOver (.object C)).before A s = true) : ∃ c : ClassId, ArrOfT s c (.object C) ∧ va_RA s c (.object C) := by
  obtain ⟨comp, c, k, h1, h2, h3, h4, h5⟩ := Cond.arrayOver_spec h
  exact ⟨c, fun n z => ⟨(fun q h => by cases h), k, h3, comp, h4⟩, k, comp, h3, h4, h1, h5⟩
theorem st_T {A : Array Value} {s : State} (hts : ∀ w ∈ lw_tbl, w.before A s = true) : ∃ gt : Nat → ClassId, ∀ (D : va_G) (ad : Nat → Nat → Nat → Nat) (F : Nat → Prop) (k : Nat) (q : ClassId × FieldType), (tyL (D, gt, ad, F))[k]? = some q → ArrOfT s q.1 q.2 ∧ va_RA s q.1 q.2 := by
  obtain ⟨c0, h0⟩ := st_arr (ty := .int) (fun C h => by cases h) (hts (.arrayClass .int) (tb_at 125 (by decide +kernel)))
  obtain ⟨c1, h1⟩ := st_arr (ty := .char) (fun C h => by cases h) (hts (.arrayClass .char) (tb_at 463 (by decide +kernel)))
  obtain ⟨c2, h2⟩ := st_over (C := "RobotCell$Arm") (hts (.arrayOver (.object "RobotCell$Arm")) (tb_at 295 (by decide +kernel)))
  obtain ⟨c3, h3⟩ := st_over (C := "RobotCell$Store") (hts (.arrayOver (.object "RobotCell$Store")) (tb_at 296 (by decide +kernel)))
  obtain ⟨c4, h4⟩ := st_over (C := "RobotCell$Job") (hts (.arrayOver (.object "RobotCell$Job")) (tb_at 297 (by decide +kernel)))
  obtain ⟨c5, h5⟩ := st_over (C := "RobotCell$Cell") (hts (.arrayOver (.object "RobotCell$Cell")) (tb_at 360 (by decide +kernel)))
  obtain ⟨c6, h6⟩ := st_over (C := "RobotCell$Command") (hts (.arrayOver (.object "RobotCell$Command")) (tb_at 464 (by decide +kernel)))
  obtain ⟨c7, h7⟩ := st_arr (ty := .long) (fun C h => by cases h) (hts (.arrayClass .long) (tb_at 1835 (by decide +kernel)))
  obtain ⟨c8, h8⟩ := st_arr (ty := .double) (fun C h => by cases h) (hts (.arrayClass .double) (tb_at 1836 (by decide +kernel)))
  refine ⟨fun k => match k with | 0 => c0 | 1 => c1 | 2 => c2 | 3 => c3 | 4 => c4 | 5 => c5 | 6 => c6 | 7 => c7 | 8 => c8 | _ => c0, fun D ad F k q hq => ?_⟩
  match k, hq with
  | 0, hq => cases hq; exact h0
  | 1, hq => cases hq; exact h1
  | 2, hq => cases hq; exact h2
  | 3, hq => cases hq; exact h3
  | 4, hq => cases hq; exact h4
  | 5, hq => cases hq; exact h5
  | 6, hq => cases hq; exact h6
  | 7, hq => cases hq; exact h7
  | 8, hq => cases hq; exact h8
  | k + 9, hq => exact absurd (List.getElem?_eq_some_iff.mp hq).1 (by simp [tyL])
theorem st_castW : ∀ w ∈ castW, w ∈ lw_tbl := in_pl [648, 650, 652, 700, 713, 745, 729, 877, 1200] (by decide +kernel)
theorem st_strW0 : ∀ w ∈ (strW.map fun q => Cond.stringRef RX11 q.1 q.2), w ∈ lw_tbl := in_pl [804, 810, 822, 838, 884, 929, 981, 990, 1116, 1125, 1134, 1135, 1147, 1159, 1207, 1216, 1228, 1294, 1302, 1314, 953, 788, 803, 720, 707, 736, 752] (by decide +kernel)
theorem st_nestW : ∀ w ∈ nestW, w ∈ lw_tbl := in_pl [417, 558, 565, 571, 580, 679, 686] (by decide +kernel)
theorem st_nestT : ∀ w ∈ nestW, w.onTables = true := by decide +kernel
theorem st_aoW : ∀ w ∈ (aoW.map fun C => Cond.arrayOver (.object C)), w ∈ lw_tbl := in_pl [295, 296, 297, 360, 464] (by decide +kernel)
theorem st_fl {A : Array Value} {s : State} (h : (Jvm.Cond.and given_1 narrow_1).before A s = true) {w : Cond} (hw : w ∈ flatC (Jvm.Cond.and given_1 narrow_1)) : w.before A s = true := flat_of_before _ h w hw
set_option maxRecDepth 100000 in
theorem st_str1 : ∀ w ∈ (strW.map fun q => Cond.exactly (.string RX11 q.1) "java/lang/String"), w ∈ flatC (Jvm.Cond.and given_1 narrow_1) := by decide +kernel
set_option maxRecDepth 100000 in
theorem st_nc1 : ∀ w ∈ (ncW.map fun q => Cond.not (.castable q.1 q.2)), w ∈ flatC (Jvm.Cond.and given_1 narrow_1) := by decide +kernel
set_option maxRecDepth 100000 in
theorem st_z1 : Cond.isRef (.static Bundle.tN "UNASSIGNED_STACK" Bundle.steD) ∈ flatC (Jvm.Cond.and given_1 narrow_1) := by decide +kernel
set_option maxRecDepth 100000 in
theorem st_z2 : Cond.isRef (.static Bundle.tN "SUPPRESSED_SENTINEL" Bundle.listD) ∈ flatC (Jvm.Cond.and given_1 narrow_1) := by decide +kernel
theorem st_Xt {A : Array Value} {s : State} (hts : ∀ w ∈ lw_tbl, w.before A s = true) (h : (Jvm.Cond.and given_1 narrow_1).before A s = true) : Xt s := by
  refine ⟨fun w hw => va_Nw.of (castW_ok w hw) (hts w (st_castW w hw)), fun q hq => ?_, fun q hq => va_Nc.of (st_fl h (st_nc1 _ (List.mem_map.mpr ⟨q, hq, rfl⟩)))⟩
  have h1 := st_fl h (st_str1 _ (List.mem_map.mpr ⟨q, hq, rfl⟩))
  have h2 := hts _ (st_strW0 _ (List.mem_map.mpr ⟨q, hq, rfl⟩))
  obtain ⟨a, c, cell, k, e, -⟩ := Cond.exactly_spec h1
  exact ⟨a, vk_R.of h2 e⟩
theorem st_Ao {A : Array Value} {s : State} (hts : ∀ w ∈ lw_tbl, w.before A s = true) : Ao s := fun C hC => va_AO.of (hts _ (st_aoW _ (List.mem_map.mpr ⟨C, hC, rfl⟩)))
theorem st_Zt {A : Array Value} {s : State} (hts : ∀ w ∈ lw_tbl, w.before A s = true) (h : (Jvm.Cond.and given_1 narrow_1).before A s = true) {G : Geo} (hF : ∀ a : Nat, a < s.heap.size → ¬ gF G a) : Zt G s s.heap :=
  ⟨vx_Zqof (hts (.laysStatic Bundle.tN "UNASSIGNED_STACK" Bundle.steD) (tb_at 607 (by decide +kernel))) (hts (.initialized Bundle.tN) (tb_at 83 (by decide +kernel))) (st_fl h st_z1) hF, vx_Zqof (hts (.laysStatic Bundle.tN "SUPPRESSED_SENTINEL" Bundle.listD) (tb_at 609 (by decide +kernel))) (hts (.initialized Bundle.tN) (tb_at 83 (by decide +kernel))) (st_fl h st_z2) hF⟩
theorem st_Kt {A : Array Value} {s : State} (hts : ∀ w ∈ lw_tbl, w.before A s = true) : ∃ (D : va_G) (gt : Nat → ClassId), ∀ (ad : Nat → Nat → Nat → Nat) (F : Nat → Prop), Kt (D, gt, ad, F) s := by
  obtain ⟨D, hD⟩ := st_D hts
  obtain ⟨gt, hT⟩ := st_T hts
  exact ⟨D, gt, fun ad F => ⟨⟨hD, hT D ad F⟩, fun w hw => va_Nw.of (st_nestT w hw) (hts w (st_nestW w hw))⟩⟩
