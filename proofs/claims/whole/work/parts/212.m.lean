/-! METHOD X11_carryOut -/
def m_X11_carryOut_j172 (p0 : Fin 28) (s0 : Int32) (x : Mem) : Option (Int32 × Mem) :=
  lt_ s0 fun x2_21 => bd_ (m_X1_interlockFault (1 : Fin 10) (x 25 0 ↑p0 8) (x 25 0 ↑p0 9) x2_21 x) fun r23 => if r23 = 0 then (bd2_ (m_X10_putInterlock ((1 : Fin 10)) (x 25 0 ↑p0 8) (x 25 0 ↑p0 9) x2_21 x) fun r26 x27 => some ((1 : Int32), x27)) else (some ((0 : Int32), x))
def m_X11_carryOut_b119 (p0 : Fin 28) (k119 : Int32 → Mem → Option (Int32 × Mem)) (x2 : Int32) (x : Mem) : Option (Int32 × Mem) :=
  if (x 25 0 ↑p0 7) ≤ x2 then (some ((1 : Int32), x)) else (bd_ (m_X8_makeTick (1 : Fin 10) x) fun x19 => lt_ (x2 + (1 : Int32)) fun x2_20 => k119 x2_20 x19)
def m_X11_carryOut_l119 (p0 : Fin 28) : Nat → Int32 → Mem → Option (Int32 × Mem)
  | 0, _, _ => none
  | n + 1, x2, x => m_X11_carryOut_b119 p0 (m_X11_carryOut_l119 p0 n) x2 x
def m_X11_carryOut (p0 : Fin 28) (x : Mem) : Option (Int32 × Mem) :=
  if (x 25 0 ↑p0 0) = (0 : Int32) then (bd_ (m_X1_giveFault (1 : Fin 10) (x 25 0 ↑p0 1) (x 25 0 ↑p0 2) (x 25 0 ↑p0 3) (x 25 0 ↑p0 4) (x 25 0 ↑p0 5) (x 25 0 ↑p0 6) x) fun r3 => if r3 = 0 then (bd2_ (m_X1_addJob (1 : Fin 10) (x 25 0 ↑p0 1) (x 25 0 ↑p0 2) (x 25 0 ↑p0 3) (x 25 0 ↑p0 4) (x 25 0 ↑p0 5) (x 25 0 ↑p0 6) x) fun r6 x7 => some ((1 : Int32), x7)) else (some ((0 : Int32), x))) else if (x 25 0 ↑p0 0) = (1 : Int32) then (bd_ (m_X11_isWithin (x 25 0 ↑p0 7) (1 : Int32) (50 : Int32)) fun r10 => if r10 = 0 then (some ((0 : Int32), x)) else (lt_ (0 : Int32) fun x2_12 => m_X11_carryOut_l119 p0 FU x2_12 x)) else (bd_ (m_X10_hasInterlock ((1 : Fin 10)) (x 25 0 ↑p0 8) (x 25 0 ↑p0 9) x) fun r14 => if r14 = 0 then (m_X11_carryOut_j172 p0 (1 : Int32) x) else (m_X11_carryOut_j172 p0 (0 : Int32) x))
abbrev WS_X11_carryOut : List Cond := .code yX11_carryOut cX11_carryOut 3 (some .boolean) :: wsG
abbrev RM_X11_carryOut : Room := { frames := 5, cells := 0, slots := 0, locals := 121 }
set_option maxHeartbeats 4000000 in
set_option maxRecDepth 100000 in
theorem c_X11_carryOut (l : Launch) (G : Geo) (x y : Mem) (p0 : Fin 28) (r : (Int32 × Mem)) (h : m_X11_carryOut p0 x = some r) : Met l yX11_carryOut WS_X11_carryOut RM_X11_carryOut (Pw G x y [.ref (gA G 14 0 0), .ref (gA G 25 0 ↑p0)]) (Qi G r.2 y r.1) 0 0 (gF G) := by
  refine Met.ofW (cc := cX11_carryOut) (maxL := 3) (ret := (some .boolean)) (by decide) rfl ?_
  intro p e s m args below meth c s₁ B hml hv
  obtain ⟨rfl, hK, hW⟩ := hv
  have hx := B.exec
  have hb := B.bytes
  have hr := B.returns
  have hts := atoms_spec (ws := WS_X11_carryOut) B.pre
  have htg : ∀ w ∈ wsG, w.before _ s = true := fun w h => hts w (List.mem_cons_of_mem _ h)
  have hown : s.vm.findClass RX11 = some m.cls := findClass_of_methodNamed B.named
  have hlocks := B.notSynchronized
  have hS : va_S (gF G) s.heap s.heap [] := va_S.rf
  have hl := lv_entry ([.ref (gA G 14 0 0), .ref (gA G 25 0 ↑p0)]) (n := 3) (Nat.le_of_ble_eq_true rfl)
  rw [lg_entry_eq]
  generalize (lg_sl ([.ref (gA G 14 0 0), .ref (gA G 25 0 ↑p0)]) ++ List.replicate (3 - (lg_sl ([.ref (gA G 14 0 0), .ref (gA G 25 0 ↑p0)])).length) Slot.unset).toArray = ls at hl ⊢
  have hl : lv_has ls 3 [(0, .ref (gA G 14 0 0)), (1, .ref (gA G 25 0 ↑p0))] := hl
  have hX := h
  unfold m_X11_carryOut at hX
  have J_172 : ∀ (s0 : Int32) (x : Mem) (H : Heap) (locs : List Loc) (ls : Array Slot), Wh G x y H → va_S (gF G) s.heap H locs → lv_has ls 3 [(0, .ref (gA G 14 0 0)), (1, .ref (gA G 25 0 ↑p0))] → m_X11_carryOut_j172 p0 s0 x = some r → W p l e (headSpec WS_X11_carryOut RM_X11_carryOut).room s m ([.ref (gA G 14 0 0), .ref (gA G 25 0 ↑p0)] : List Value).toArray below meth c H locs 0 0 (MQ below (Qi G r.2 y r.1) ([.ref (gA G 14 0 0), .ref (gA G 25 0 ↑p0)] : List Value).toArray s 0 0 (gF G)) (F0 m 172 ls [.int s0]) := by
    intro s0 x H locs ls hW hS hl hX
    unfold m_X11_carryOut_j172 at hX
    refine lv_topi (fun x2_21 e9 => ?_)
    have hX := lt_go hX e9
    refine lv_istore_n (lv' := [(2, .int x2_21), (0, .ref (gA G 14 0 0)), (1, .ref (gA G 25 0 ↑p0))]) hx hb dX11_carryOut_172 rfl hl (by decide) rfl (fun ls hl => ?_)
    refine lv_aload_n hx hb dX11_carryOut_173 rfl (lv_at hl 1 rfl) ?_
    refine gf_14_1 hx hb htg hown hK hW q18 dX11_carryOut_174 ?_
    refine lv_aload_n hx hb dX11_carryOut_177 rfl (lv_at hl 2 rfl) ?_
    refine gf_25_8 hx hb htg hown hK hW p0 q1169 dX11_carryOut_178 ?_
    refine lv_aload_n hx hb dX11_carryOut_181 rfl (lv_at hl 2 rfl) ?_
    refine gf_25_9 hx hb htg hown hK hW p0 q1170 dX11_carryOut_182 ?_
    refine lv_iload_n hx hb dX11_carryOut_185 rfl (lv_at hl 0 rfl) ?_
    obtain ⟨r23, h22, hX⟩ := bd_go hX
    refine k_X1_interlockFault hx hb hml hown htg hK hW hS h22 q191 hl.1 (Nat.le_of_ble_eq_true rfl) (Nat.le_of_ble_eq_true rfl) (Nat.le_of_ble_eq_true rfl) ⟨Nat.zero_le _, Nat.zero_le _⟩ dX11_carryOut_186 (fun H locs hW hS => ?_)
    refine lv_if_eq (tgt := 194) hx hb dX11_carryOut_189 (by decide) (fun c24 => ?_) (fun c24 => ?_)
    · have hX := it_t hX c24
      refine lv_aload_n hx hb dX11_carryOut_194 rfl (lv_at hl 1 rfl) ?_
      refine gf_14_1 hx hb htg hown hK hW q18 dX11_carryOut_195 ?_
      refine gf_2_7 hx hb htg hown hK hW (1 : Fin 10) q190 dX11_carryOut_198 ?_
      refine lv_aload_n hx hb dX11_carryOut_201 rfl (lv_at hl 2 rfl) ?_
      refine gf_25_8 hx hb htg hown hK hW p0 q1169 dX11_carryOut_202 ?_
      refine lv_aload_n hx hb dX11_carryOut_205 rfl (lv_at hl 2 rfl) ?_
      refine gf_25_9 hx hb htg hown hK hW p0 q1170 dX11_carryOut_206 ?_
      refine lv_iload_n hx hb dX11_carryOut_209 rfl (lv_at hl 0 rfl) ?_
      obtain ⟨r26, x27, h25, hX⟩ := bd2_go hX
      refine k_X10_putInterlock hx hb hml hown htg hK hW hS h25 q298 hl.1 (Nat.le_of_ble_eq_true rfl) (Nat.le_of_ble_eq_true rfl) (Nat.le_of_ble_eq_true rfl) ⟨Nat.zero_le _, Nat.zero_le _⟩ dX11_carryOut_210 (fun H locs hW hS => ?_)
      refine lv_pop hx hb dX11_carryOut_213 rfl ?_
      refine lv_iconst (v := (1 : Int32)) hx hb dX11_carryOut_214 (by decide) ?_
      have hX := Option.some.inj hX
      subst hX
      exact rt_z hx hb hr hlocks hW hS nb1 dX11_carryOut_215
    · have hX := it_f hX c24
      refine lv_iconst (v := (0 : Int32)) hx hb dX11_carryOut_192 (by decide) ?_
      have hX := Option.some.inj hX
      subst hX
      exact rt_z hx hb hr hlocks hW hS nb0 dX11_carryOut_193
  have B_119 : ∀ (k119 : Int32 → Mem → Option (Int32 × Mem)) (hk119 : ∀ (x2 : Int32) (x : Mem) (H : Heap) (locs : List Loc) (ls : Array Slot), Wh G x y H → va_S (gF G) s.heap H locs → lv_has ls 3 [(0, .ref (gA G 14 0 0)), (1, .ref (gA G 25 0 ↑p0)), (2, .int x2)] → k119 x2 x = some r → W p l e (headSpec WS_X11_carryOut RM_X11_carryOut).room s m ([.ref (gA G 14 0 0), .ref (gA G 25 0 ↑p0)] : List Value).toArray below meth c H locs 0 0 (MQ below (Qi G r.2 y r.1) ([.ref (gA G 14 0 0), .ref (gA G 25 0 ↑p0)] : List Value).toArray s 0 0 (gF G)) (F0 m 119 ls [])), ∀ (x2 : Int32) (x : Mem) (H : Heap) (locs : List Loc) (ls : Array Slot), Wh G x y H → va_S (gF G) s.heap H locs → lv_has ls 3 [(0, .ref (gA G 14 0 0)), (1, .ref (gA G 25 0 ↑p0)), (2, .int x2)] → m_X11_carryOut_b119 p0 k119 x2 x = some r → W p l e (headSpec WS_X11_carryOut RM_X11_carryOut).room s m ([.ref (gA G 14 0 0), .ref (gA G 25 0 ↑p0)] : List Value).toArray below meth c H locs 0 0 (MQ below (Qi G r.2 y r.1) ([.ref (gA G 14 0 0), .ref (gA G 25 0 ↑p0)] : List Value).toArray s 0 0 (gF G)) (F0 m 119 ls []) := by
    intro k119 hk119 x2 x H locs ls hW hS hl hX
    unfold m_X11_carryOut_b119 at hX
    refine lv_iload_n hx hb dX11_carryOut_119 rfl (lv_at hl 2 rfl) ?_
    refine lv_aload_n hx hb dX11_carryOut_120 rfl (lv_at hl 1 rfl) ?_
    refine gf_25_7 hx hb htg hown hK hW p0 q1168 dX11_carryOut_121 ?_
    refine lv_icmp_ge (tgt := 144) hx hb dX11_carryOut_124 (by decide) (fun c16 => ?_) (fun c16 => ?_)
    · have hX := it_t hX c16
      refine lv_iconst (v := (1 : Int32)) hx hb dX11_carryOut_144 (by decide) ?_
      have hX := Option.some.inj hX
      subst hX
      exact rt_z hx hb hr hlocks hW hS nb1 dX11_carryOut_145
    · have hX := it_f hX c16
      refine lv_aload_n hx hb dX11_carryOut_127 rfl (lv_at hl 0 rfl) ?_
      refine gf_14_5 hx hb htg hown hK hW q28 dX11_carryOut_128 ?_
      refine lv_aload_n hx hb dX11_carryOut_131 rfl (lv_at hl 0 rfl) ?_
      refine gf_14_1 hx hb htg hown hK hW q18 dX11_carryOut_132 ?_
      obtain ⟨x19, h17, hX⟩ := bd_go hX
      refine k_X8_makeTick hx hb hml hown htg hK hW hS h17 q679 hl.1 (Nat.le_of_ble_eq_true rfl) (Nat.le_of_ble_eq_true rfl) (Nat.le_of_ble_eq_true rfl) ⟨Nat.zero_le _, Nat.zero_le _⟩ dX11_carryOut_135 (fun H locs hW hS => ?_)
      obtain ⟨x2_20, e9⟩ : ∃ w : Int32, w = (x2 + (1 : Int32)) := ⟨_, rfl⟩
      have hX := lt_go hX e9
      refine lv_iinc (v := x2_20) (lv' := [(2, .int x2_20), (0, .ref (gA G 14 0 0)), (1, .ref (gA G 25 0 ↑p0))]) hx hb dX11_carryOut_138 hl (k := 2) rfl (by rw [e9]; rfl) (by decide) rfl (fun ls hl => ?_)
      refine lv_goto (tgt := 119) hx hb dX11_carryOut_141 (by decide) ?_
      exact hk119 _ _ _ _ _ hW hS (lv_sub hl [1, 2, 0] rfl) hX
  have L_119 : ∀ (n : Nat), ∀ (x2 : Int32) (x : Mem) (H : Heap) (locs : List Loc) (ls : Array Slot), Wh G x y H → va_S (gF G) s.heap H locs → lv_has ls 3 [(0, .ref (gA G 14 0 0)), (1, .ref (gA G 25 0 ↑p0)), (2, .int x2)] → m_X11_carryOut_l119 p0 n x2 x = some r → W p l e (headSpec WS_X11_carryOut RM_X11_carryOut).room s m ([.ref (gA G 14 0 0), .ref (gA G 25 0 ↑p0)] : List Value).toArray below meth c H locs 0 0 (MQ below (Qi G r.2 y r.1) ([.ref (gA G 14 0 0), .ref (gA G 25 0 ↑p0)] : List Value).toArray s 0 0 (gF G)) (F0 m 119 ls []) := by
    intro n
    induction n with
    | zero => intro x2 x H locs ls hW hS hl hX; exact no_go hX
    | succ n ih => intro x2 x H locs ls hW hS hl hX; exact B_119 _ ih _ _ _ _ _ hW hS hl hX
  refine lv_aload_n hx hb dX11_carryOut_0 rfl (lv_at hl 1 rfl) ?_
  refine gf_25_0 hx hb htg hown hK hW p0 q1161 dX11_carryOut_1 ?_
  by_cases c1 : (x 25 0 ↑p0 0) = (0 : Int32)
  · have hX := it_t hX c1
    refine lv_lkIn (v := (0 : Int32)) (tgt := 32) hx hb dX11_carryOut_4 c1 (by decide) rfl (by decide) ?_
    refine lv_aload_n hx hb dX11_carryOut_32 rfl (lv_at hl 0 rfl) ?_
    refine gf_14_1 hx hb htg hown hK hW q18 dX11_carryOut_33 ?_
    refine lv_aload_n hx hb dX11_carryOut_36 rfl (lv_at hl 1 rfl) ?_
    refine gf_25_1 hx hb htg hown hK hW p0 q1162 dX11_carryOut_37 ?_
    refine lv_aload_n hx hb dX11_carryOut_40 rfl (lv_at hl 1 rfl) ?_
    refine gf_25_2 hx hb htg hown hK hW p0 q1163 dX11_carryOut_41 ?_
    refine lv_aload_n hx hb dX11_carryOut_44 rfl (lv_at hl 1 rfl) ?_
    refine gf_25_3 hx hb htg hown hK hW p0 q1164 dX11_carryOut_45 ?_
    refine lv_aload_n hx hb dX11_carryOut_48 rfl (lv_at hl 1 rfl) ?_
    refine gf_25_4 hx hb htg hown hK hW p0 q1165 dX11_carryOut_49 ?_
    refine lv_aload_n hx hb dX11_carryOut_52 rfl (lv_at hl 1 rfl) ?_
    refine gf_25_5 hx hb htg hown hK hW p0 q1166 dX11_carryOut_53 ?_
    refine lv_aload_n hx hb dX11_carryOut_56 rfl (lv_at hl 1 rfl) ?_
    refine gf_25_6 hx hb htg hown hK hW p0 q1167 dX11_carryOut_57 ?_
    obtain ⟨r3, h2, hX⟩ := bd_go hX
    refine k_X1_giveFault hx hb hml hown htg hK hW hS h2 q536 hl.1 (Nat.le_of_ble_eq_true rfl) (Nat.le_of_ble_eq_true rfl) (Nat.le_of_ble_eq_true rfl) ⟨Nat.zero_le _, Nat.zero_le _⟩ dX11_carryOut_60 (fun H locs hW hS => ?_)
    refine lv_if_eq (tgt := 68) hx hb dX11_carryOut_63 (by decide) (fun c4 => ?_) (fun c4 => ?_)
    · have hX := it_t hX c4
      refine lv_aload_n hx hb dX11_carryOut_68 rfl (lv_at hl 0 rfl) ?_
      refine gf_14_1 hx hb htg hown hK hW q18 dX11_carryOut_69 ?_
      refine lv_aload_n hx hb dX11_carryOut_72 rfl (lv_at hl 1 rfl) ?_
      refine gf_25_1 hx hb htg hown hK hW p0 q1162 dX11_carryOut_73 ?_
      refine lv_aload_n hx hb dX11_carryOut_76 rfl (lv_at hl 1 rfl) ?_
      refine gf_25_2 hx hb htg hown hK hW p0 q1163 dX11_carryOut_77 ?_
      refine lv_aload_n hx hb dX11_carryOut_80 rfl (lv_at hl 1 rfl) ?_
      refine gf_25_3 hx hb htg hown hK hW p0 q1164 dX11_carryOut_81 ?_
      refine lv_aload_n hx hb dX11_carryOut_84 rfl (lv_at hl 1 rfl) ?_
      refine gf_25_4 hx hb htg hown hK hW p0 q1165 dX11_carryOut_85 ?_
      refine lv_aload_n hx hb dX11_carryOut_88 rfl (lv_at hl 1 rfl) ?_
      refine gf_25_5 hx hb htg hown hK hW p0 q1166 dX11_carryOut_89 ?_
      refine lv_aload_n hx hb dX11_carryOut_92 rfl (lv_at hl 1 rfl) ?_
      refine gf_25_6 hx hb htg hown hK hW p0 q1167 dX11_carryOut_93 ?_
      obtain ⟨r6, x7, h5, hX⟩ := bd2_go hX
      refine k_X1_addJob hx hb hml hown htg hK hW hS h5 q544 hl.1 (Nat.le_of_ble_eq_true rfl) (Nat.le_of_ble_eq_true rfl) (Nat.le_of_ble_eq_true rfl) ⟨Nat.zero_le _, Nat.zero_le _⟩ dX11_carryOut_96 (fun H locs hW hS => ?_)
      refine lv_pop hx hb dX11_carryOut_99 rfl ?_
      refine lv_iconst (v := (1 : Int32)) hx hb dX11_carryOut_100 (by decide) ?_
      have hX := Option.some.inj hX
      subst hX
      exact rt_z hx hb hr hlocks hW hS nb1 dX11_carryOut_101
    · have hX := it_f hX c4
      refine lv_iconst (v := (0 : Int32)) hx hb dX11_carryOut_66 (by decide) ?_
      have hX := Option.some.inj hX
      subst hX
      exact rt_z hx hb hr hlocks hW hS nb0 dX11_carryOut_67
  have hX := it_f hX c1
  by_cases c8 : (x 25 0 ↑p0 0) = (1 : Int32)
  · have hX := it_t hX c8
    refine lv_lkIn (v := (1 : Int32)) (tgt := 102) hx hb dX11_carryOut_4 c8 (by decide) rfl (by decide) ?_
    refine lv_aload_n hx hb dX11_carryOut_102 rfl (lv_at hl 1 rfl) ?_
    refine gf_25_7 hx hb htg hown hK hW p0 q1168 dX11_carryOut_103 ?_
    refine lv_iconst (v := (1 : Int32)) hx hb dX11_carryOut_106 (by decide) ?_
    refine lv_bipush (v := (50 : Int32)) hx hb dX11_carryOut_107 (by decide) ?_
    obtain ⟨r10, h9, hX⟩ := bd_go hX
    refine k_X11_isWithin hx hb hml hown htg hK hW hS h9 q395 hl.1 (Nat.le_of_ble_eq_true rfl) (Nat.le_of_ble_eq_true rfl) (Nat.le_of_ble_eq_true rfl) ⟨Nat.zero_le _, Nat.zero_le _⟩ dX11_carryOut_109 (fun H locs hW hS => ?_)
    refine lv_if_ne (tgt := 117) hx hb dX11_carryOut_112 (by decide) (fun c11 => ?_) (fun c11 => ?_)
    · have hX := it_f hX c11
      refine lv_iconst (v := (0 : Int32)) hx hb dX11_carryOut_117 (by decide) ?_
      refine lv_topi (fun x2_12 e9 => ?_)
      have hX := lt_go hX e9
      refine lv_istore_n (lv' := [(2, .int x2_12), (0, .ref (gA G 14 0 0)), (1, .ref (gA G 25 0 ↑p0))]) hx hb dX11_carryOut_118 rfl hl (by decide) rfl (fun ls hl => ?_)
      exact L_119 FU _ _ _ _ _ hW hS (lv_sub hl [1, 2, 0] rfl) hX
    · have hX := it_t hX c11
      refine lv_iconst (v := (0 : Int32)) hx hb dX11_carryOut_115 (by decide) ?_
      have hX := Option.some.inj hX
      subst hX
      exact rt_z hx hb hr hlocks hW hS nb0 dX11_carryOut_116
  have hX := it_f hX c8
  refine lv_lkOut2 (tgt := 146) hx hb dX11_carryOut_4 rfl (by decide) c1 c8 (by decide) ?_
  refine lv_aload_n hx hb dX11_carryOut_146 rfl (lv_at hl 0 rfl) ?_
  refine gf_14_1 hx hb htg hown hK hW q18 dX11_carryOut_147 ?_
  refine gf_2_7 hx hb htg hown hK hW (1 : Fin 10) q190 dX11_carryOut_150 ?_
  refine lv_aload_n hx hb dX11_carryOut_153 rfl (lv_at hl 1 rfl) ?_
  refine gf_25_8 hx hb htg hown hK hW p0 q1169 dX11_carryOut_154 ?_
  refine lv_aload_n hx hb dX11_carryOut_157 rfl (lv_at hl 1 rfl) ?_
  refine gf_25_9 hx hb htg hown hK hW p0 q1170 dX11_carryOut_158 ?_
  obtain ⟨r14, h13, hX⟩ := bd_go hX
  refine k_X10_hasInterlock hx hb hml hown htg hK hW hS h13 q1171 hl.1 (Nat.le_of_ble_eq_true rfl) (Nat.le_of_ble_eq_true rfl) (Nat.le_of_ble_eq_true rfl) ⟨Nat.zero_le _, Nat.zero_le _⟩ dX11_carryOut_161 (fun H locs hW hS => ?_)
  refine lv_if_ne (tgt := 171) hx hb dX11_carryOut_164 (by decide) (fun c15 => ?_) (fun c15 => ?_)
  · have hX := it_f hX c15
    refine lv_iconst (v := (0 : Int32)) hx hb dX11_carryOut_171 (by decide) ?_
    exact J_172 _ _ _ _ _ hW hS (lv_sub hl [0, 1] rfl) hX
  · have hX := it_t hX c15
    refine lv_iconst (v := (1 : Int32)) hx hb dX11_carryOut_167 (by decide) ?_
    refine lv_goto (tgt := 172) hx hb dX11_carryOut_168 (by decide) ?_
    exact J_172 _ _ _ _ _ hW hS (lv_sub hl [0, 1] rfl) hX
set_option maxHeartbeats 4000000 in
theorem k_X11_carryOut {p : Program} {l : Launch} {e : Env} {R : Room} {s : State} {m : MethodId} {args : Array Value} {below : List Frame} {meth : Method} {c : Code} {H : Heap} {locs : List Loc} {cells slots : Nat} {Q : State → Prop} {cc : ByteArray} {pc nL idx : Nat} {own : String} {ls : Array Slot} {rest : List Value} {G : Geo} {x y : Mem} {H0 : Heap} {p0 : Fin 28} {v : Int32} {z : Mem} (hx : p.tables.exec = Jvm.exec) (hb : c.code = cc) (hml : c.maxLocals = nL) (hown : s.vm.findClass own = some m.cls) (htg : ∀ w ∈ wsG, w.before args s = true) (hK : Kt G s) (hW : Wh G x y H) (hS : va_S (gF G) H0 H locs) (h : m_X11_carryOut p0 x = some (v, z)) (hlk : Cond.methodLink own idx yX11_carryOut ∈ wsG) (hn : ls.size = nL) (hr : (rest.map fun v => v.category).sum ≤ 8) (hR1 : 5 + 1 ≤ R.frames) (hR2 : 8 + (3 + 11) + 121 ≤ R.locals) (hf : cells ≤ R.cells ∧ slots ≤ R.slots) (hdg : decode cc pc = .ok (.invokevirtual idx, 3)) (kk : ∀ (H1 : Heap) (locs1 : List Loc), Wh G z y H1 → va_S (gF G) H0 H1 locs1 → W p l e R s m args below meth c H1 locs1 cells slots Q (F0 m (pc + 3) ls (.int v :: rest))) : W p l e R s m args below meth c H locs cells slots Q (F0 m pc ls (.ref (gA G 25 0 ↑p0) :: .ref (gA G 14 0 0) :: rest)) := by
  refine va_calli (va_runV (As := [.ref (gA G 25 0 ↑p0)]) (rest := rest) ⟨hx, hb, hml, hown, htg⟩ (c_X11_carryOut l G x y p0 (v, z) h) (cwV 1 htg (gd_V hlk q1158 q1159 q2 q1160) rfl rfl rfl (by decide +kernel) ⟨hR1, hR2⟩) ⟨fun a U g mk q => ⟨q.1, q.2.1.calling, q.2.2⟩, rc_14 hK hW, fun U hU hW9 => ⟨rfl, hK.warm hW9, by rw [hU]; exact hW⟩⟩ rfl rfl hn rfl (lv_room hr) hdg hf) hS (fun _ _ h9 => h9) (fun _ h9 => h9) ?_
  intro r9 u t H1 locs1 ht hvm hw hB hz1 hk1 hS1
  replace hB : Wh G z y t.heap := hB
  rw [ht] at hB
  replace hw : r9 = v := hw
  subst hw
  exact kk H1 locs1 hB hS1
/-! METHOD X11_isSafe -/
def m_X11_isSafe (x : Mem) : Option (Int32 × Mem) :=
  bd2_ (m_X6_canAllFinish (0 : Fin 10) x) fun r2 x3 => gb_ r2 (some (r2, x3))
abbrev WS_X11_isSafe : List Cond := .code yX11_isSafe cX11_isSafe 1 (some .boolean) :: wsG
abbrev RM_X11_isSafe : Room := { frames := 3, cells := 0, slots := 0, locals := 68 }
set_option maxHeartbeats 4000000 in
set_option maxRecDepth 100000 in
theorem c_X11_isSafe (l : Launch) (G : Geo) (x y : Mem) (r : (Int32 × Mem)) (h : m_X11_isSafe x = some r) : Met l yX11_isSafe WS_X11_isSafe RM_X11_isSafe (Pw G x y [.ref (gA G 14 0 0)]) (Qi G r.2 y r.1) 0 0 (gF G) := by
  refine Met.ofW (cc := cX11_isSafe) (maxL := 1) (ret := (some .boolean)) (by decide) rfl ?_
  intro p e s m args below meth c s₁ B hml hv
  obtain ⟨rfl, hK, hW⟩ := hv
  have hx := B.exec
  have hb := B.bytes
  have hr := B.returns
  have hts := atoms_spec (ws := WS_X11_isSafe) B.pre
  have htg : ∀ w ∈ wsG, w.before _ s = true := fun w h => hts w (List.mem_cons_of_mem _ h)
  have hown : s.vm.findClass RX11 = some m.cls := findClass_of_methodNamed B.named
  have hlocks := B.notSynchronized
  have hS : va_S (gF G) s.heap s.heap [] := va_S.rf
  have hl := lv_entry ([.ref (gA G 14 0 0)]) (n := 1) (Nat.le_of_ble_eq_true rfl)
  rw [lg_entry_eq]
  generalize (lg_sl ([.ref (gA G 14 0 0)]) ++ List.replicate (1 - (lg_sl ([.ref (gA G 14 0 0)])).length) Slot.unset).toArray = ls at hl ⊢
  have hl : lv_has ls 1 [(0, .ref (gA G 14 0 0))] := hl
  have hX := h
  unfold m_X11_isSafe at hX
  refine lv_aload_n hx hb dX11_isSafe_0 rfl (lv_at hl 0 rfl) ?_
  refine gf_14_5 hx hb htg hown hK hW q28 dX11_isSafe_1 ?_
  refine gf_17_0 hx hb htg hown hK hW q928 dX11_isSafe_4 ?_
  refine lv_aload_n hx hb dX11_isSafe_7 rfl (lv_at hl 0 rfl) ?_
  refine gf_14_0 hx hb htg hown hK hW q17 dX11_isSafe_8 ?_
  obtain ⟨r2, x3, h1, hX⟩ := bd2_go hX
  refine k_X6_canAllFinish hx hb hml hown htg hK hW hS h1 q975 hl.1 (Nat.le_of_ble_eq_true rfl) (Nat.le_of_ble_eq_true rfl) (Nat.le_of_ble_eq_true rfl) ⟨Nat.zero_le _, Nat.zero_le _⟩ dX11_isSafe_11 (fun H locs hW hS => ?_)
  obtain ⟨g9, hX⟩ := gb_go hX
  have hX := Option.some.inj hX
  subst hX
  exact rt_z hx hb hr hlocks hW hS (isB_n g9) dX11_isSafe_14
set_option maxHeartbeats 4000000 in
theorem k_X11_isSafe {p : Program} {l : Launch} {e : Env} {R : Room} {s : State} {m : MethodId} {args : Array Value} {below : List Frame} {meth : Method} {c : Code} {H : Heap} {locs : List Loc} {cells slots : Nat} {Q : State → Prop} {cc : ByteArray} {pc nL idx : Nat} {own : String} {ls : Array Slot} {rest : List Value} {G : Geo} {x y : Mem} {H0 : Heap} {v : Int32} {z : Mem} (hx : p.tables.exec = Jvm.exec) (hb : c.code = cc) (hml : c.maxLocals = nL) (hown : s.vm.findClass own = some m.cls) (htg : ∀ w ∈ wsG, w.before args s = true) (hK : Kt G s) (hW : Wh G x y H) (hS : va_S (gF G) H0 H locs) (h : m_X11_isSafe x = some (v, z)) (hlk : Cond.methodLink own idx yX11_isSafe ∈ wsG) (hn : ls.size = nL) (hr : (rest.map fun v => v.category).sum ≤ 8) (hR1 : 3 + 1 ≤ R.frames) (hR2 : 8 + (1 + 11) + 68 ≤ R.locals) (hf : cells ≤ R.cells ∧ slots ≤ R.slots) (hdg : decode cc pc = .ok (.invokevirtual idx, 3)) (kk : ∀ (H1 : Heap) (locs1 : List Loc), Wh G z y H1 → va_S (gF G) H0 H1 locs1 → W p l e R s m args below meth c H1 locs1 cells slots Q (F0 m (pc + 3) ls (.int v :: rest))) : W p l e R s m args below meth c H locs cells slots Q (F0 m pc ls (.ref (gA G 14 0 0) :: rest)) := by
  refine va_calli (va_runV (As := []) (rest := rest) ⟨hx, hb, hml, hown, htg⟩ (c_X11_isSafe l G x y (v, z) h) (cwV 0 htg (gd_V hlk q972 q973 q2 q974) rfl rfl rfl (by decide +kernel) ⟨hR1, hR2⟩) ⟨fun a U g mk q => ⟨q.1, q.2.1.calling, q.2.2⟩, rc_14 hK hW, fun U hU hW9 => ⟨rfl, hK.warm hW9, by rw [hU]; exact hW⟩⟩ rfl rfl hn rfl (lv_room hr) hdg hf) hS (fun _ _ h9 => h9) (fun _ h9 => h9) ?_
  intro r9 u t H1 locs1 ht hvm hw hB hz1 hk1 hS1
  replace hB : Wh G z y t.heap := hB
  rw [ht] at hB
  replace hw : r9 = v := hw
  subst hw
  exact kk H1 locs1 hB hS1
/-! METHOD X11_save -/
def m_X11_save (x : Mem) : Option (Int32 × Mem) :=
  bd_ (m_X1_copyFrom (2 : Fin 10) (0 : Fin 10) x) fun x3 => lt_ (up4 x3 14 0 0 3 (1 : Int32)) fun x4 => some ((x4 2 ↑((0 : Fin 10)) 0 0), x4)
abbrev WS_X11_save : List Cond := .code yX11_save cX11_save 1 (some .int) :: wsG
abbrev RM_X11_save : Room := { frames := 3, cells := 0, slots := 0, locals := 65 }
set_option maxHeartbeats 4000000 in
set_option maxRecDepth 100000 in
theorem c_X11_save (l : Launch) (G : Geo) (x y : Mem) (r : (Int32 × Mem)) (h : m_X11_save x = some r) : Met l yX11_save WS_X11_save RM_X11_save (Pw G x y [.ref (gA G 14 0 0)]) (Qi G r.2 y r.1) 0 0 (gF G) := by
  refine Met.ofW (cc := cX11_save) (maxL := 1) (ret := (some .int)) (by decide) rfl ?_
  intro p e s m args below meth c s₁ B hml hv
  obtain ⟨rfl, hK, hW⟩ := hv
  have hx := B.exec
  have hb := B.bytes
  have hr := B.returns
  have hts := atoms_spec (ws := WS_X11_save) B.pre
  have htg : ∀ w ∈ wsG, w.before _ s = true := fun w h => hts w (List.mem_cons_of_mem _ h)
  have hown : s.vm.findClass RX11 = some m.cls := findClass_of_methodNamed B.named
  have hlocks := B.notSynchronized
  have hS : va_S (gF G) s.heap s.heap [] := va_S.rf
  have hl := lv_entry ([.ref (gA G 14 0 0)]) (n := 1) (Nat.le_of_ble_eq_true rfl)
  rw [lg_entry_eq]
  generalize (lg_sl ([.ref (gA G 14 0 0)]) ++ List.replicate (1 - (lg_sl ([.ref (gA G 14 0 0)])).length) Slot.unset).toArray = ls at hl ⊢
  have hl : lv_has ls 1 [(0, .ref (gA G 14 0 0))] := hl
  have hX := h
  unfold m_X11_save at hX
  refine lv_aload_n hx hb dX11_save_0 rfl (lv_at hl 0 rfl) ?_
  refine gf_14_2 hx hb htg hown hK hW q19 dX11_save_1 ?_
  refine lv_aload_n hx hb dX11_save_4 rfl (lv_at hl 0 rfl) ?_
  refine gf_14_0 hx hb htg hown hK hW q17 dX11_save_5 ?_
  obtain ⟨x3, h1, hX⟩ := bd_go hX
  refine k_X1_copyFrom hx hb hml hown htg hK hW hS h1 q943 hl.1 (Nat.le_of_ble_eq_true rfl) (Nat.le_of_ble_eq_true rfl) (Nat.le_of_ble_eq_true rfl) ⟨Nat.zero_le _, Nat.zero_le _⟩ dX11_save_8 (fun H locs hW hS => ?_)
  refine lv_aload_n hx hb dX11_save_11 rfl (lv_at hl 0 rfl) ?_
  refine lv_iconst (v := (1 : Int32)) hx hb dX11_save_12 (by decide) ?_
  refine pf_14_3 hx hb htg hown hK hW hS q20 (by decide) dX11_save_13 (fun H locs hW hS => ?_)
  obtain ⟨x4, e9⟩ : ∃ w : Mem, w = (up4 x3 14 0 0 3 (1 : Int32)) := ⟨_, rfl⟩
  rw [← e9] at hW
  have hX := lt_go hX e9
  refine lv_aload_n hx hb dX11_save_16 rfl (lv_at hl 0 rfl) ?_
  refine gf_14_0 hx hb htg hown hK hW q17 dX11_save_17 ?_
  refine gf_2_0 hx hb htg hown hK hW (0 : Fin 10) q1047 dX11_save_20 ?_
  have hX := Option.some.inj hX
  subst hX
  exact rt_i hx hb hr hlocks hW hS dX11_save_23
set_option maxHeartbeats 4000000 in
theorem k_X11_save {p : Program} {l : Launch} {e : Env} {R : Room} {s : State} {m : MethodId} {args : Array Value} {below : List Frame} {meth : Method} {c : Code} {H : Heap} {locs : List Loc} {cells slots : Nat} {Q : State → Prop} {cc : ByteArray} {pc nL idx : Nat} {own : String} {ls : Array Slot} {rest : List Value} {G : Geo} {x y : Mem} {H0 : Heap} {v : Int32} {z : Mem} (hx : p.tables.exec = Jvm.exec) (hb : c.code = cc) (hml : c.maxLocals = nL) (hown : s.vm.findClass own = some m.cls) (htg : ∀ w ∈ wsG, w.before args s = true) (hK : Kt G s) (hW : Wh G x y H) (hS : va_S (gF G) H0 H locs) (h : m_X11_save x = some (v, z)) (hlk : Cond.methodLink own idx yX11_save ∈ wsG) (hn : ls.size = nL) (hr : (rest.map fun v => v.category).sum ≤ 8) (hR1 : 3 + 1 ≤ R.frames) (hR2 : 8 + (1 + 11) + 65 ≤ R.locals) (hf : cells ≤ R.cells ∧ slots ≤ R.slots) (hdg : decode cc pc = .ok (.invokevirtual idx, 3)) (kk : ∀ (H1 : Heap) (locs1 : List Loc), Wh G z y H1 → va_S (gF G) H0 H1 locs1 → W p l e R s m args below meth c H1 locs1 cells slots Q (F0 m (pc + 3) ls (.int v :: rest))) : W p l e R s m args below meth c H locs cells slots Q (F0 m pc ls (.ref (gA G 14 0 0) :: rest)) := by
  refine va_calli (va_runV (As := []) (rest := rest) ⟨hx, hb, hml, hown, htg⟩ (c_X11_save l G x y (v, z) h) (cwV 0 htg (gd_V hlk q1232 q1233 q2 q1234) rfl rfl rfl (by decide +kernel) ⟨hR1, hR2⟩) ⟨fun a U g mk q => ⟨q.1, q.2.1.calling, q.2.2⟩, rc_14 hK hW, fun U hU hW9 => ⟨rfl, hK.warm hW9, by rw [hU]; exact hW⟩⟩ rfl rfl hn rfl (lv_room hr) hdg hf) hS (fun _ _ h9 => h9) (fun _ h9 => h9) ?_
  intro r9 u t H1 locs1 ht hvm hw hB hz1 hk1 hS1
  replace hB : Wh G z y t.heap := hB
  rw [ht] at hB
  replace hw : r9 = v := hw
  subst hw
  exact kk H1 locs1 hB hS1
/-! METHOD X12_isBetween -/
def m_X12_isBetween (p0 : Int32) (p1 : Int32) (p2 : Int32) : Option Int32 :=
  if p0 < p1 then (some (0 : Int32)) else (if p2 < p0 then (some (0 : Int32)) else (some (1 : Int32)))
abbrev WS_X12_isBetween : List Cond := .code yX12_isBetween cX12_isBetween 3 (some .boolean) :: wsG
abbrev RM_X12_isBetween : Room := { frames := 0, cells := 0, slots := 0, locals := 0 }
set_option maxHeartbeats 4000000 in
set_option maxRecDepth 100000 in
theorem c_X12_isBetween (l : Launch) (G : Geo) (x y : Mem) (p0 : Int32) (p1 : Int32) (p2 : Int32) (r : Int32) (h : m_X12_isBetween p0 p1 p2 = some r) : Met l yX12_isBetween WS_X12_isBetween RM_X12_isBetween (Pw G x y [.int p0, .int p1, .int p2]) (Qi G x y r) 0 0 (gF G) := by
  refine Met.ofW (cc := cX12_isBetween) (maxL := 3) (ret := (some .boolean)) (by decide) rfl ?_
  intro p e s m args below meth c s₁ B hml hv
  obtain ⟨rfl, hK, hW⟩ := hv
  have hx := B.exec
  have hb := B.bytes
  have hr := B.returns
  have hts := atoms_spec (ws := WS_X12_isBetween) B.pre
  have htg : ∀ w ∈ wsG, w.before _ s = true := fun w h => hts w (List.mem_cons_of_mem _ h)
  have hown : s.vm.findClass RX12 = some m.cls := findClass_of_methodNamed B.named
  have hlocks := B.notSynchronized
  have hS : va_S (gF G) s.heap s.heap [] := va_S.rf
  have hl := lv_entry ([.int p0, .int p1, .int p2]) (n := 3) (Nat.le_of_ble_eq_true rfl)
  rw [lg_entry_eq]
  generalize (lg_sl ([.int p0, .int p1, .int p2]) ++ List.replicate (3 - (lg_sl ([.int p0, .int p1, .int p2])).length) Slot.unset).toArray = ls at hl ⊢
  have hl : lv_has ls 3 [(0, .int p0), (1, .int p1), (2, .int p2)] := hl
  have hX := h
  unfold m_X12_isBetween at hX
  refine lv_iload_n hx hb dX12_isBetween_0 rfl (lv_at hl 0 rfl) ?_
  refine lv_iload_n hx hb dX12_isBetween_1 rfl (lv_at hl 1 rfl) ?_
  refine lv_icmp_lt (tgt := 14) hx hb dX12_isBetween_2 (by decide) (fun c1 => ?_) (fun c1 => ?_)
  · have hX := it_t hX c1
    refine lv_iconst (v := (0 : Int32)) hx hb dX12_isBetween_14 (by decide) ?_
    have hX := Option.some.inj hX
    subst hX
    exact rt_z hx hb hr hlocks hW hS nb0 dX12_isBetween_15
  · have hX := it_f hX c1
    refine lv_iload_n hx hb dX12_isBetween_5 rfl (lv_at hl 0 rfl) ?_
    refine lv_iload_n hx hb dX12_isBetween_6 rfl (lv_at hl 2 rfl) ?_
    refine lv_icmp_gt (tgt := 14) hx hb dX12_isBetween_7 (by decide) (fun c2 => ?_) (fun c2 => ?_)
    · have hX := it_t hX c2
      refine lv_iconst (v := (0 : Int32)) hx hb dX12_isBetween_14 (by decide) ?_
      have hX := Option.some.inj hX
      subst hX
      exact rt_z hx hb hr hlocks hW hS nb0 dX12_isBetween_15
    · have hX := it_f hX c2
      refine lv_iconst (v := (1 : Int32)) hx hb dX12_isBetween_10 (by decide) ?_
      refine lv_goto (tgt := 15) hx hb dX12_isBetween_11 (by decide) ?_
      have hX := Option.some.inj hX
      subst hX
      exact rt_z hx hb hr hlocks hW hS nb1 dX12_isBetween_15
set_option maxHeartbeats 4000000 in
theorem k_X12_isBetween {p : Program} {l : Launch} {e : Env} {R : Room} {s : State} {m : MethodId} {args : Array Value} {below : List Frame} {meth : Method} {c : Code} {H : Heap} {locs : List Loc} {cells slots : Nat} {Q : State → Prop} {cc : ByteArray} {pc nL idx : Nat} {own : String} {ls : Array Slot} {rest : List Value} {G : Geo} {x y : Mem} {H0 : Heap} {p0 : Int32} {p1 : Int32} {p2 : Int32} {v : Int32} (hx : p.tables.exec = Jvm.exec) (hb : c.code = cc) (hml : c.maxLocals = nL) (hown : s.vm.findClass own = some m.cls) (htg : ∀ w ∈ wsG, w.before args s = true) (hK : Kt G s) (hW : Wh G x y H) (hS : va_S (gF G) H0 H locs) (h : m_X12_isBetween p0 p1 p2 = some v) (hlk : Cond.methodLink own idx yX12_isBetween ∈ wsG) (hn : ls.size = nL) (hr : (rest.map fun v => v.category).sum ≤ 8) (hR1 : 0 + 1 ≤ R.frames) (hR2 : 8 + (3 + 11) + 0 ≤ R.locals) (hf : cells ≤ R.cells ∧ slots ≤ R.slots) (hdg : decode cc pc = .ok (.invokestatic idx, 3)) (kk : ∀ (H1 : Heap) (locs1 : List Loc), Wh G x y H1 → va_S (gF G) H0 H1 locs1 → W p l e R s m args below meth c H1 locs1 cells slots Q (F0 m (pc + 3) ls (.int v :: rest))) : W p l e R s m args below meth c H locs cells slots Q (F0 m pc ls (.int p2 :: .int p1 :: .int p0 :: rest)) := by
  refine va_calli (va_runS (As := [.int p0, .int p1, .int p2]) (rest := rest) ⟨hx, hb, hml, hown, htg⟩ (c_X12_isBetween l G x y p0 p1 p2 v h) (va_cwS 3 htg (gd_S hlk q320 q5 q321) rfl rfl rfl (by decide +kernel) ⟨hR1, hR2⟩) ⟨fun a U g mk q => ⟨q.1, q.2.1.calling, q.2.2⟩, fun U hU hW9 => ⟨rfl, hK.warm hW9, by rw [hU]; exact hW⟩⟩ rfl rfl hn rfl (lv_room hr) hdg hf) hS (fun _ _ h9 => h9) (fun _ h9 => h9) ?_
  intro r9 u t H1 locs1 ht hvm hw hB hz1 hk1 hS1
  replace hB : Wh G x y t.heap := hB
  rw [ht] at hB
  replace hw : r9 = v := hw
  subst hw
  exact kk H1 locs1 hB hS1
/-! METHOD X12_fails -/
def m_X12_fails (p0 : Int32) (y : Mem) : Option (Int32 × Mem) :=
  lt_ (up4 y 40 0 0 0 p0) fun y1 => some ((0 : Int32), y1)
abbrev WS_X12_fails : List Cond := .code yX12_fails cX12_fails 2 (some .int) :: wsG
abbrev RM_X12_fails : Room := { frames := 0, cells := 0, slots := 0, locals := 0 }
set_option maxHeartbeats 4000000 in
set_option maxRecDepth 100000 in
theorem c_X12_fails (l : Launch) (G : Geo) (x y : Mem) (p0 : Int32) (r : (Int32 × Mem)) (h : m_X12_fails p0 y = some r) : Met l yX12_fails WS_X12_fails RM_X12_fails (Pw G x y [.ref (gA G 40 0 0), .int p0]) (Qi G x r.2 r.1) 0 0 (gF G) := by
  refine Met.ofW (cc := cX12_fails) (maxL := 2) (ret := (some .int)) (by decide) rfl ?_
  intro p e s m args below meth c s₁ B hml hv
  obtain ⟨rfl, hK, hW⟩ := hv
  have hx := B.exec
  have hb := B.bytes
  have hr := B.returns
  have hts := atoms_spec (ws := WS_X12_fails) B.pre
  have htg : ∀ w ∈ wsG, w.before _ s = true := fun w h => hts w (List.mem_cons_of_mem _ h)
  have hown : s.vm.findClass RX12 = some m.cls := findClass_of_methodNamed B.named
  have hlocks := B.notSynchronized
  have hS : va_S (gF G) s.heap s.heap [] := va_S.rf
  have hl := lv_entry ([.ref (gA G 40 0 0), .int p0]) (n := 2) (Nat.le_of_ble_eq_true rfl)
  rw [lg_entry_eq]
  generalize (lg_sl ([.ref (gA G 40 0 0), .int p0]) ++ List.replicate (2 - (lg_sl ([.ref (gA G 40 0 0), .int p0])).length) Slot.unset).toArray = ls at hl ⊢
  have hl : lv_has ls 2 [(0, .ref (gA G 40 0 0)), (1, .int p0)] := hl
  have hX := h
  unfold m_X12_fails at hX
  refine lv_aload_n hx hb dX12_fails_0 rfl (lv_at hl 0 rfl) ?_
  refine lv_iload_n hx hb dX12_fails_1 rfl (lv_at hl 1 rfl) ?_
  refine pf_40_0 hx hb htg hown hK hW hS q311 dX12_fails_2 (fun H locs hW hS => ?_)
  obtain ⟨y1, e9⟩ : ∃ w : Mem, w = (up4 y 40 0 0 0 p0) := ⟨_, rfl⟩
  rw [← e9] at hW
  have hX := lt_go hX e9
  refine lv_iconst (v := (0 : Int32)) hx hb dX12_fails_5 (by decide) ?_
  have hX := Option.some.inj hX
  subst hX
  exact rt_i hx hb hr hlocks hW hS dX12_fails_6
set_option maxHeartbeats 4000000 in
theorem k_X12_fails {p : Program} {l : Launch} {e : Env} {R : Room} {s : State} {m : MethodId} {args : Array Value} {below : List Frame} {meth : Method} {c : Code} {H : Heap} {locs : List Loc} {cells slots : Nat} {Q : State → Prop} {cc : ByteArray} {pc nL idx : Nat} {own : String} {ls : Array Slot} {rest : List Value} {G : Geo} {x y : Mem} {H0 : Heap} {p0 : Int32} {v : Int32} {z : Mem} (hx : p.tables.exec = Jvm.exec) (hb : c.code = cc) (hml : c.maxLocals = nL) (hown : s.vm.findClass own = some m.cls) (htg : ∀ w ∈ wsG, w.before args s = true) (hK : Kt G s) (hW : Wh G x y H) (hS : va_S (gF G) H0 H locs) (h : m_X12_fails p0 y = some (v, z)) (hlk : Cond.methodLink own idx yX12_fails ∈ wsG) (hn : ls.size = nL) (hr : (rest.map fun v => v.category).sum ≤ 8) (hR1 : 0 + 1 ≤ R.frames) (hR2 : 8 + (2 + 11) + 0 ≤ R.locals) (hf : cells ≤ R.cells ∧ slots ≤ R.slots) (hdg : decode cc pc = .ok (.invokevirtual idx, 3)) (kk : ∀ (H1 : Heap) (locs1 : List Loc), Wh G x z H1 → va_S (gF G) H0 H1 locs1 → W p l e R s m args below meth c H1 locs1 cells slots Q (F0 m (pc + 3) ls (.int v :: rest))) : W p l e R s m args below meth c H locs cells slots Q (F0 m pc ls (.int p0 :: .ref (gA G 40 0 0) :: rest)) := by
  refine va_calli (va_runV (As := [.int p0]) (rest := rest) ⟨hx, hb, hml, hown, htg⟩ (c_X12_fails l G x y p0 (v, z) h) (cwV 1 htg (gd_V hlk q408 q409 q5 q410) rfl rfl rfl (by decide +kernel) ⟨hR1, hR2⟩) ⟨fun a U g mk q => ⟨q.1, q.2.1.calling, q.2.2⟩, rc_40 hK hW, fun U hU hW9 => ⟨rfl, hK.warm hW9, by rw [hU]; exact hW⟩⟩ rfl rfl hn rfl (lv_room hr) hdg hf) hS (fun _ _ h9 => h9) (fun _ h9 => h9) ?_
  intro r9 u t H1 locs1 ht hvm hw hB hz1 hk1 hS1
  replace hB : Wh G x z t.heap := hB
  rw [ht] at hB
  replace hw : r9 = v := hw
  subst hw
  exact kk H1 locs1 hB hS1
/-! METHOD X12_sum -/
def m_X12_sum_b4 (p0 : Nat × Nat × Nat) (p0n : Nat) (k4 : Int32 → Int32 → Mem → Option Int32) (x1 : Int32) (x2 : Int32) (y : Mem) : Option Int32 :=
  if (Int32.ofNat p0n) ≤ x2 then (some x1) else (gd_ x2 p0n (lt_ (x1 + (y p0.1 p0.2.1 p0.2.2 x2.toNatClampNeg)) fun x1_5 => lt_ (x2 + (1 : Int32)) fun x2_6 => k4 x1_5 x2_6 y))
def m_X12_sum_l4 (p0 : Nat × Nat × Nat) (p0n : Nat) : Nat → Int32 → Int32 → Mem → Option Int32
  | 0, _, _, _ => none
  | n + 1, x1, x2, y => m_X12_sum_b4 p0 p0n (m_X12_sum_l4 p0 p0n n) x1 x2 y
def m_X12_sum (p0 : Nat × Nat × Nat) (p0n : Nat) (y : Mem) : Option Int32 :=
  lt_ (0 : Int32) fun x1_1 => lt_ (0 : Int32) fun x2_2 => m_X12_sum_l4 p0 p0n FU x1_1 x2_2 y
abbrev WS_X12_sum : List Cond := .code yX12_sum cX12_sum 3 (some .int) :: wsG
abbrev RM_X12_sum : Room := { frames := 0, cells := 0, slots := 0, locals := 0 }
set_option maxHeartbeats 4000000 in
set_option maxRecDepth 100000 in
theorem c_X12_sum (l : Launch) (G : Geo) (x y : Mem) (p0 : Nat × Nat × Nat) (p0n : Nat) (hA_p0 : Ia p0 p0n) (hB_p0 : ¬ p0.1 < 40) (r : Int32) (h : m_X12_sum p0 p0n y = some r) : Met l yX12_sum WS_X12_sum RM_X12_sum (Pw G x y [.ref (gA G p0.1 p0.2.1 p0.2.2)]) (Qi G x y r) 0 0 (gF G) := by
  refine Met.ofW (cc := cX12_sum) (maxL := 3) (ret := (some .int)) (by decide) rfl ?_
  intro p e s m args below meth c s₁ B hml hv
  obtain ⟨rfl, hK, hW⟩ := hv
  have hx := B.exec
  have hb := B.bytes
  have hr := B.returns
  have hts := atoms_spec (ws := WS_X12_sum) B.pre
  have htg : ∀ w ∈ wsG, w.before _ s = true := fun w h => hts w (List.mem_cons_of_mem _ h)
  have hown : s.vm.findClass RX12 = some m.cls := findClass_of_methodNamed B.named
  have hlocks := B.notSynchronized
  have hS : va_S (gF G) s.heap s.heap [] := va_S.rf
  have hl := lv_entry ([.ref (gA G p0.1 p0.2.1 p0.2.2)]) (n := 3) (Nat.le_of_ble_eq_true rfl)
  rw [lg_entry_eq]
  generalize (lg_sl ([.ref (gA G p0.1 p0.2.1 p0.2.2)]) ++ List.replicate (3 - (lg_sl ([.ref (gA G p0.1 p0.2.1 p0.2.2)])).length) Slot.unset).toArray = ls at hl ⊢
  have hl : lv_has ls 3 [(0, .ref (gA G p0.1 p0.2.1 p0.2.2))] := hl
  have hX := h
  unfold m_X12_sum at hX
  have B_4 : ∀ (k4 : Int32 → Int32 → Mem → Option Int32) (hk4 : ∀ (x1 : Int32) (x2 : Int32) (y : Mem) (H : Heap) (locs : List Loc) (ls : Array Slot), Wh G x y H → va_S (gF G) s.heap H locs → lv_has ls 3 [(0, .ref (gA G p0.1 p0.2.1 p0.2.2)), (1, .int x1), (2, .int x2)] → k4 x1 x2 y = some r → W p l e (headSpec WS_X12_sum RM_X12_sum).room s m ([.ref (gA G p0.1 p0.2.1 p0.2.2)] : List Value).toArray below meth c H locs 0 0 (MQ below (Qi G x y r) ([.ref (gA G p0.1 p0.2.1 p0.2.2)] : List Value).toArray s 0 0 (gF G)) (F0 m 4 ls [])), ∀ (x1 : Int32) (x2 : Int32) (y : Mem) (H : Heap) (locs : List Loc) (ls : Array Slot), Wh G x y H → va_S (gF G) s.heap H locs → lv_has ls 3 [(0, .ref (gA G p0.1 p0.2.1 p0.2.2)), (1, .int x1), (2, .int x2)] → m_X12_sum_b4 p0 p0n k4 x1 x2 y = some r → W p l e (headSpec WS_X12_sum RM_X12_sum).room s m ([.ref (gA G p0.1 p0.2.1 p0.2.2)] : List Value).toArray below meth c H locs 0 0 (MQ below (Qi G x y r) ([.ref (gA G p0.1 p0.2.1 p0.2.2)] : List Value).toArray s 0 0 (gF G)) (F0 m 4 ls []) := by
    intro k4 hk4 x1 x2 y H locs ls hW hS hl hX
    unfold m_X12_sum_b4 at hX
    refine lv_iload_n hx hb dX12_sum_4 rfl (lv_at hl 2 rfl) ?_
    refine lv_aload_n hx hb dX12_sum_5 rfl (lv_at hl 0 rfl) ?_
    refine an_hr hx hb hK hW hA_p0 dX12_sum_6 ?_
    refine lv_icmp_ge (tgt := 22) hx hb dX12_sum_7 (by decide) (fun c3 => ?_) (fun c3 => ?_)
    · have hX := it_t hX c3
      refine lv_iload_n hx hb dX12_sum_22 rfl (lv_at hl 1 rfl) ?_
      have hX := Option.some.inj hX
      subst hX
      exact rt_i hx hb hr hlocks hW hS dX12_sum_23
    · have hX := it_f hX c3
      refine lv_iload_n hx hb dX12_sum_10 rfl (lv_at hl 1 rfl) ?_
      refine lv_aload_n hx hb dX12_sum_11 rfl (lv_at hl 0 rfl) ?_
      refine lv_iload_n hx hb dX12_sum_12 rfl (lv_at hl 2 rfl) ?_
      obtain ⟨g4, hX⟩ := gd_go hX
      refine al_hr hx hb hK hW hA_p0 hB_p0 g4 dX12_sum_13 ?_
      refine lv_iadd hx hb dX12_sum_14 ?_
      refine lv_topi (fun x1_5 e9 => ?_)
      have hX := lt_go hX e9
      refine lv_istore_n (lv' := [(1, .int x1_5), (0, .ref (gA G p0.1 p0.2.1 p0.2.2)), (2, .int x2)]) hx hb dX12_sum_15 rfl hl (by decide) rfl (fun ls hl => ?_)
      obtain ⟨x2_6, e9⟩ : ∃ w : Int32, w = (x2 + (1 : Int32)) := ⟨_, rfl⟩
      have hX := lt_go hX e9
      refine lv_iinc (v := x2_6) (lv' := [(2, .int x2_6), (1, .int x1_5), (0, .ref (gA G p0.1 p0.2.1 p0.2.2))]) hx hb dX12_sum_16 hl (k := 2) rfl (by rw [e9]; rfl) (by decide) rfl (fun ls hl => ?_)
      refine lv_goto (tgt := 4) hx hb dX12_sum_19 (by decide) ?_
      exact hk4 _ _ _ _ _ _ hW hS (lv_sub hl [2, 1, 0] rfl) hX
  have L_4 : ∀ (n : Nat), ∀ (x1 : Int32) (x2 : Int32) (y : Mem) (H : Heap) (locs : List Loc) (ls : Array Slot), Wh G x y H → va_S (gF G) s.heap H locs → lv_has ls 3 [(0, .ref (gA G p0.1 p0.2.1 p0.2.2)), (1, .int x1), (2, .int x2)] → m_X12_sum_l4 p0 p0n n x1 x2 y = some r → W p l e (headSpec WS_X12_sum RM_X12_sum).room s m ([.ref (gA G p0.1 p0.2.1 p0.2.2)] : List Value).toArray below meth c H locs 0 0 (MQ below (Qi G x y r) ([.ref (gA G p0.1 p0.2.1 p0.2.2)] : List Value).toArray s 0 0 (gF G)) (F0 m 4 ls []) := by
    intro n
    induction n with
    | zero => intro x1 x2 y H locs ls hW hS hl hX; exact no_go hX
    | succ n ih => intro x1 x2 y H locs ls hW hS hl hX; exact B_4 _ ih _ _ _ _ _ _ hW hS hl hX
  refine lv_iconst (v := (0 : Int32)) hx hb dX12_sum_0 (by decide) ?_
  refine lv_topi (fun x1_1 e9 => ?_)
  have hX := lt_go hX e9
  refine lv_istore_n (lv' := [(1, .int x1_1), (0, .ref (gA G p0.1 p0.2.1 p0.2.2))]) hx hb dX12_sum_1 rfl hl (by decide) rfl (fun ls hl => ?_)
  refine lv_iconst (v := (0 : Int32)) hx hb dX12_sum_2 (by decide) ?_
  refine lv_topi (fun x2_2 e9 => ?_)
  have hX := lt_go hX e9
  refine lv_istore_n (lv' := [(2, .int x2_2), (1, .int x1_1), (0, .ref (gA G p0.1 p0.2.1 p0.2.2))]) hx hb dX12_sum_3 rfl hl (by decide) rfl (fun ls hl => ?_)
  exact L_4 FU _ _ _ _ _ _ hW hS (lv_sub hl [2, 1, 0] rfl) hX
set_option maxHeartbeats 4000000 in
theorem k_X12_sum {p : Program} {l : Launch} {e : Env} {R : Room} {s : State} {m : MethodId} {args : Array Value} {below : List Frame} {meth : Method} {c : Code} {H : Heap} {locs : List Loc} {cells slots : Nat} {Q : State → Prop} {cc : ByteArray} {pc nL idx : Nat} {own : String} {ls : Array Slot} {rest : List Value} {G : Geo} {x y : Mem} {H0 : Heap} {p0 : Nat × Nat × Nat} {p0n : Nat} {v : Int32} (hx : p.tables.exec = Jvm.exec) (hb : c.code = cc) (hml : c.maxLocals = nL) (hown : s.vm.findClass own = some m.cls) (htg : ∀ w ∈ wsG, w.before args s = true) (hK : Kt G s) (hW : Wh G x y H) (hS : va_S (gF G) H0 H locs) (hA_p0 : Ia p0 p0n) (hB_p0 : ¬ p0.1 < 40) (h : m_X12_sum p0 p0n y = some v) (hlk : Cond.methodLink own idx yX12_sum ∈ wsG) (hn : ls.size = nL) (hr : (rest.map fun v => v.category).sum ≤ 8) (hR1 : 0 + 1 ≤ R.frames) (hR2 : 8 + (3 + 11) + 0 ≤ R.locals) (hf : cells ≤ R.cells ∧ slots ≤ R.slots) (hdg : decode cc pc = .ok (.invokestatic idx, 3)) (kk : ∀ (H1 : Heap) (locs1 : List Loc), Wh G x y H1 → va_S (gF G) H0 H1 locs1 → W p l e R s m args below meth c H1 locs1 cells slots Q (F0 m (pc + 3) ls (.int v :: rest))) : W p l e R s m args below meth c H locs cells slots Q (F0 m pc ls (.ref (gA G p0.1 p0.2.1 p0.2.2) :: rest)) := by
  refine va_calli (va_runS (As := [.ref (gA G p0.1 p0.2.1 p0.2.2)]) (rest := rest) ⟨hx, hb, hml, hown, htg⟩ (c_X12_sum l G x y p0 p0n hA_p0 hB_p0 v h) (va_cwS 1 htg (gd_S hlk q1031 q5 q1032) rfl rfl rfl (by decide +kernel) ⟨hR1, hR2⟩) ⟨fun a U g mk q => ⟨q.1, q.2.1.calling, q.2.2⟩, fun U hU hW9 => ⟨rfl, hK.warm hW9, by rw [hU]; exact hW⟩⟩ rfl rfl hn rfl (lv_room hr) hdg hf) hS (fun _ _ h9 => h9) (fun _ h9 => h9) ?_
  intro r9 u t H1 locs1 ht hvm hw hB hz1 hk1 hS1
  replace hB : Wh G x y t.heap := hB
  rw [ht] at hB
  replace hw : r9 = v := hw
  subst hw
  exact kk H1 locs1 hB hS1
/-! METHOD X12_interlocks -/
def m_X12_interlocks_b12 (k4 : Int32 → Int32 → Mem → Option Int32) (k12 : Int32 → Int32 → Int32 → Mem → Option Int32) (x1 : Int32) (x2 : Int32) (x3 : Int32) (y : Mem) : Option Int32 :=
  if x2 ≤ x3 then (lt_ (x2 + (1 : Int32)) fun x2_6 => k4 x1 x2_6 y) else (gd_ x2 8 (lt_ (x1 + ((sar32 (y 101 0 0 x2.toNatClampNeg) x3) &&& (1 : Int32))) fun x1_8 => lt_ (x3 + (1 : Int32)) fun x3_9 => k12 x1_8 x2 x3_9 y))
def m_X12_interlocks_l12 (k4 : Int32 → Int32 → Mem → Option Int32) : Nat → Int32 → Int32 → Int32 → Mem → Option Int32
  | 0, _, _, _, _ => none
  | n + 1, x1, x2, x3, y => m_X12_interlocks_b12 k4 (m_X12_interlocks_l12 k4 n) x1 x2 x3 y
def m_X12_interlocks_b4 (k4 : Int32 → Int32 → Mem → Option Int32) (x1 : Int32) (x2 : Int32) (y : Mem) : Option Int32 :=
  if (8 : Int32) ≤ x2 then (some x1) else (lt_ (0 : Int32) fun x3_4 => m_X12_interlocks_l12 k4 FU x1 x2 x3_4 y)
def m_X12_interlocks_l4 : Nat → Int32 → Int32 → Mem → Option Int32
  | 0, _, _, _ => none
  | n + 1, x1, x2, y => m_X12_interlocks_b4 (m_X12_interlocks_l4 n) x1 x2 y
def m_X12_interlocks (y : Mem) : Option Int32 :=
  lt_ (0 : Int32) fun x1_1 => lt_ (0 : Int32) fun x2_2 => m_X12_interlocks_l4 FU x1_1 x2_2 y
abbrev WS_X12_interlocks : List Cond := .code yX12_interlocks cX12_interlocks 4 (some .int) :: wsG
abbrev RM_X12_interlocks : Room := { frames := 0, cells := 0, slots := 0, locals := 0 }
set_option maxHeartbeats 4000000 in
set_option maxRecDepth 100000 in
theorem c_X12_interlocks (l : Launch) (G : Geo) (x y : Mem) (r : Int32) (h : m_X12_interlocks y = some r) : Met l yX12_interlocks WS_X12_interlocks RM_X12_interlocks (Pw G x y [.ref (gA G 40 0 0)]) (Qi G x y r) 0 0 (gF G) := by
  refine Met.ofW (cc := cX12_interlocks) (maxL := 4) (ret := (some .int)) (by decide) rfl ?_
  intro p e s m args below meth c s₁ B hml hv
  obtain ⟨rfl, hK, hW⟩ := hv
  have hx := B.exec
  have hb := B.bytes
  have hr := B.returns
  have hts := atoms_spec (ws := WS_X12_interlocks) B.pre
  have htg : ∀ w ∈ wsG, w.before _ s = true := fun w h => hts w (List.mem_cons_of_mem _ h)
  have hown : s.vm.findClass RX12 = some m.cls := findClass_of_methodNamed B.named
  have hlocks := B.notSynchronized
  have hS : va_S (gF G) s.heap s.heap [] := va_S.rf
  have hl := lv_entry ([.ref (gA G 40 0 0)]) (n := 4) (Nat.le_of_ble_eq_true rfl)
  rw [lg_entry_eq]
  generalize (lg_sl ([.ref (gA G 40 0 0)]) ++ List.replicate (4 - (lg_sl ([.ref (gA G 40 0 0)])).length) Slot.unset).toArray = ls at hl ⊢
  have hl : lv_has ls 4 [(0, .ref (gA G 40 0 0))] := hl
  have hX := h
  unfold m_X12_interlocks at hX
  have B_12 : ∀ (k4 : Int32 → Int32 → Mem → Option Int32) (hk4 : ∀ (x1 : Int32) (x2 : Int32) (y : Mem) (H : Heap) (locs : List Loc) (ls : Array Slot), Wh G x y H → va_S (gF G) s.heap H locs → lv_has ls 4 [(0, .ref (gA G 40 0 0)), (1, .int x1), (2, .int x2)] → k4 x1 x2 y = some r → W p l e (headSpec WS_X12_interlocks RM_X12_interlocks).room s m ([.ref (gA G 40 0 0)] : List Value).toArray below meth c H locs 0 0 (MQ below (Qi G x y r) ([.ref (gA G 40 0 0)] : List Value).toArray s 0 0 (gF G)) (F0 m 4 ls [])) (k12 : Int32 → Int32 → Int32 → Mem → Option Int32) (hk12 : ∀ (x1 : Int32) (x2 : Int32) (x3 : Int32) (y : Mem) (H : Heap) (locs : List Loc) (ls : Array Slot), Wh G x y H → va_S (gF G) s.heap H locs → lv_has ls 4 [(0, .ref (gA G 40 0 0)), (1, .int x1), (2, .int x2), (3, .int x3)] → k12 x1 x2 x3 y = some r → W p l e (headSpec WS_X12_interlocks RM_X12_interlocks).room s m ([.ref (gA G 40 0 0)] : List Value).toArray below meth c H locs 0 0 (MQ below (Qi G x y r) ([.ref (gA G 40 0 0)] : List Value).toArray s 0 0 (gF G)) (F0 m 12 ls [])), ∀ (x1 : Int32) (x2 : Int32) (x3 : Int32) (y : Mem) (H : Heap) (locs : List Loc) (ls : Array Slot), Wh G x y H → va_S (gF G) s.heap H locs → lv_has ls 4 [(0, .ref (gA G 40 0 0)), (1, .int x1), (2, .int x2), (3, .int x3)] → m_X12_interlocks_b12 k4 k12 x1 x2 x3 y = some r → W p l e (headSpec WS_X12_interlocks RM_X12_interlocks).room s m ([.ref (gA G 40 0 0)] : List Value).toArray below meth c H locs 0 0 (MQ below (Qi G x y r) ([.ref (gA G 40 0 0)] : List Value).toArray s 0 0 (gF G)) (F0 m 12 ls []) := by
    intro k4 hk4 k12 hk12 x1 x2 x3 y H locs ls hW hS hl hX
    unfold m_X12_interlocks_b12 at hX
    refine lv_iload_n hx hb dX12_interlocks_12 rfl (lv_at hl 3 rfl) ?_
    refine lv_iload_n hx hb dX12_interlocks_13 rfl (lv_at hl 2 rfl) ?_
    refine lv_icmp_ge (tgt := 36) hx hb dX12_interlocks_14 (by decide) (fun c5 => ?_) (fun c5 => ?_)
    · have hX := it_t hX c5
      obtain ⟨x2_6, e9⟩ : ∃ w : Int32, w = (x2 + (1 : Int32)) := ⟨_, rfl⟩
      have hX := lt_go hX e9
      refine lv_iinc (v := x2_6) (lv' := [(2, .int x2_6), (0, .ref (gA G 40 0 0)), (1, .int x1), (3, .int x3)]) hx hb dX12_interlocks_36 hl (k := 2) rfl (by rw [e9]; rfl) (by decide) rfl (fun ls hl => ?_)
      refine lv_goto (tgt := 4) hx hb dX12_interlocks_39 (by decide) ?_
      exact hk4 _ _ _ _ _ _ hW hS (lv_sub hl [1, 2, 0] rfl) hX
    · have hX := it_f hX c5
      refine lv_iload_n hx hb dX12_interlocks_17 rfl (lv_at hl 1 rfl) ?_
      refine lv_aload_n hx hb dX12_interlocks_18 rfl (lv_at hl 0 rfl) ?_
      refine gf_40_1 hx hb htg hown hK hW q136 dX12_interlocks_19 ?_
      refine lv_iload_n hx hb dX12_interlocks_22 rfl (lv_at hl 2 rfl) ?_
      obtain ⟨g7, hX⟩ := gd_go hX
      refine al_101 hx hb hK hW g7 dX12_interlocks_23 ?_
      refine lv_iload_n hx hb dX12_interlocks_24 rfl (lv_at hl 3 rfl) ?_
      refine lv_ishr_ hx hb dX12_interlocks_25 ?_
      refine lv_iconst (v := (1 : Int32)) hx hb dX12_interlocks_26 (by decide) ?_
      refine lv_iand hx hb dX12_interlocks_27 ?_
      refine lv_iadd hx hb dX12_interlocks_28 ?_
      refine lv_topi (fun x1_8 e9 => ?_)
      have hX := lt_go hX e9
      refine lv_istore_n (lv' := [(1, .int x1_8), (0, .ref (gA G 40 0 0)), (2, .int x2), (3, .int x3)]) hx hb dX12_interlocks_29 rfl hl (by decide) rfl (fun ls hl => ?_)
      obtain ⟨x3_9, e9⟩ : ∃ w : Int32, w = (x3 + (1 : Int32)) := ⟨_, rfl⟩
      have hX := lt_go hX e9
      refine lv_iinc (v := x3_9) (lv' := [(3, .int x3_9), (1, .int x1_8), (0, .ref (gA G 40 0 0)), (2, .int x2)]) hx hb dX12_interlocks_30 hl (k := 3) rfl (by rw [e9]; rfl) (by decide) rfl (fun ls hl => ?_)
      refine lv_goto (tgt := 12) hx hb dX12_interlocks_33 (by decide) ?_
      exact hk12 _ _ _ _ _ _ _ hW hS (lv_sub hl [2, 1, 3, 0] rfl) hX
  have L_12 : ∀ (k4 : Int32 → Int32 → Mem → Option Int32) (hk4 : ∀ (x1 : Int32) (x2 : Int32) (y : Mem) (H : Heap) (locs : List Loc) (ls : Array Slot), Wh G x y H → va_S (gF G) s.heap H locs → lv_has ls 4 [(0, .ref (gA G 40 0 0)), (1, .int x1), (2, .int x2)] → k4 x1 x2 y = some r → W p l e (headSpec WS_X12_interlocks RM_X12_interlocks).room s m ([.ref (gA G 40 0 0)] : List Value).toArray below meth c H locs 0 0 (MQ below (Qi G x y r) ([.ref (gA G 40 0 0)] : List Value).toArray s 0 0 (gF G)) (F0 m 4 ls [])) (n : Nat), ∀ (x1 : Int32) (x2 : Int32) (x3 : Int32) (y : Mem) (H : Heap) (locs : List Loc) (ls : Array Slot), Wh G x y H → va_S (gF G) s.heap H locs → lv_has ls 4 [(0, .ref (gA G 40 0 0)), (1, .int x1), (2, .int x2), (3, .int x3)] → m_X12_interlocks_l12 k4 n x1 x2 x3 y = some r → W p l e (headSpec WS_X12_interlocks RM_X12_interlocks).room s m ([.ref (gA G 40 0 0)] : List Value).toArray below meth c H locs 0 0 (MQ below (Qi G x y r) ([.ref (gA G 40 0 0)] : List Value).toArray s 0 0 (gF G)) (F0 m 12 ls []) := by
    intro k4 hk4 n
    induction n with
    | zero => intro x1 x2 x3 y H locs ls hW hS hl hX; exact no_go hX
    | succ n ih => intro x1 x2 x3 y H locs ls hW hS hl hX; exact B_12 k4 hk4 _ ih _ _ _ _ _ _ _ hW hS hl hX
  have B_4 : ∀ (k4 : Int32 → Int32 → Mem → Option Int32) (hk4 : ∀ (x1 : Int32) (x2 : Int32) (y : Mem) (H : Heap) (locs : List Loc) (ls : Array Slot), Wh G x y H → va_S (gF G) s.heap H locs → lv_has ls 4 [(0, .ref (gA G 40 0 0)), (1, .int x1), (2, .int x2)] → k4 x1 x2 y = some r → W p l e (headSpec WS_X12_interlocks RM_X12_interlocks).room s m ([.ref (gA G 40 0 0)] : List Value).toArray below meth c H locs 0 0 (MQ below (Qi G x y r) ([.ref (gA G 40 0 0)] : List Value).toArray s 0 0 (gF G)) (F0 m 4 ls [])), ∀ (x1 : Int32) (x2 : Int32) (y : Mem) (H : Heap) (locs : List Loc) (ls : Array Slot), Wh G x y H → va_S (gF G) s.heap H locs → lv_has ls 4 [(0, .ref (gA G 40 0 0)), (1, .int x1), (2, .int x2)] → m_X12_interlocks_b4 k4 x1 x2 y = some r → W p l e (headSpec WS_X12_interlocks RM_X12_interlocks).room s m ([.ref (gA G 40 0 0)] : List Value).toArray below meth c H locs 0 0 (MQ below (Qi G x y r) ([.ref (gA G 40 0 0)] : List Value).toArray s 0 0 (gF G)) (F0 m 4 ls []) := by
    intro k4 hk4 x1 x2 y H locs ls hW hS hl hX
    unfold m_X12_interlocks_b4 at hX
    refine lv_iload_n hx hb dX12_interlocks_4 rfl (lv_at hl 2 rfl) ?_
    refine lv_bipush (v := (8 : Int32)) hx hb dX12_interlocks_5 (by decide) ?_
    refine lv_icmp_ge (tgt := 42) hx hb dX12_interlocks_7 (by decide) (fun c3 => ?_) (fun c3 => ?_)
    · have hX := it_t hX c3
      refine lv_iload_n hx hb dX12_interlocks_42 rfl (lv_at hl 1 rfl) ?_
      have hX := Option.some.inj hX
      subst hX
      exact rt_i hx hb hr hlocks hW hS dX12_interlocks_43
    · have hX := it_f hX c3
      refine lv_iconst (v := (0 : Int32)) hx hb dX12_interlocks_10 (by decide) ?_
      refine lv_topi (fun x3_4 e9 => ?_)
      have hX := lt_go hX e9
      refine lv_istore_n (lv' := [(3, .int x3_4), (0, .ref (gA G 40 0 0)), (1, .int x1), (2, .int x2)]) hx hb dX12_interlocks_11 rfl hl (by decide) rfl (fun ls hl => ?_)
      exact L_12 k4 hk4 FU _ _ _ _ _ _ _ hW hS (lv_sub hl [1, 2, 3, 0] rfl) hX
  have L_4 : ∀ (n : Nat), ∀ (x1 : Int32) (x2 : Int32) (y : Mem) (H : Heap) (locs : List Loc) (ls : Array Slot), Wh G x y H → va_S (gF G) s.heap H locs → lv_has ls 4 [(0, .ref (gA G 40 0 0)), (1, .int x1), (2, .int x2)] → m_X12_interlocks_l4 n x1 x2 y = some r → W p l e (headSpec WS_X12_interlocks RM_X12_interlocks).room s m ([.ref (gA G 40 0 0)] : List Value).toArray below meth c H locs 0 0 (MQ below (Qi G x y r) ([.ref (gA G 40 0 0)] : List Value).toArray s 0 0 (gF G)) (F0 m 4 ls []) := by
    intro n
    induction n with
    | zero => intro x1 x2 y H locs ls hW hS hl hX; exact no_go hX
    | succ n ih => intro x1 x2 y H locs ls hW hS hl hX; exact B_4 _ ih _ _ _ _ _ _ hW hS hl hX
  refine lv_iconst (v := (0 : Int32)) hx hb dX12_interlocks_0 (by decide) ?_
  refine lv_topi (fun x1_1 e9 => ?_)
  have hX := lt_go hX e9
  refine lv_istore_n (lv' := [(1, .int x1_1), (0, .ref (gA G 40 0 0))]) hx hb dX12_interlocks_1 rfl hl (by decide) rfl (fun ls hl => ?_)
  refine lv_iconst (v := (0 : Int32)) hx hb dX12_interlocks_2 (by decide) ?_
  refine lv_topi (fun x2_2 e9 => ?_)
  have hX := lt_go hX e9
  refine lv_istore_n (lv' := [(2, .int x2_2), (1, .int x1_1), (0, .ref (gA G 40 0 0))]) hx hb dX12_interlocks_3 rfl hl (by decide) rfl (fun ls hl => ?_)
  exact L_4 FU _ _ _ _ _ _ hW hS (lv_sub hl [2, 1, 0] rfl) hX
set_option maxHeartbeats 4000000 in
theorem k_X12_interlocks {p : Program} {l : Launch} {e : Env} {R : Room} {s : State} {m : MethodId} {args : Array Value} {below : List Frame} {meth : Method} {c : Code} {H : Heap} {locs : List Loc} {cells slots : Nat} {Q : State → Prop} {cc : ByteArray} {pc nL idx : Nat} {own : String} {ls : Array Slot} {rest : List Value} {G : Geo} {x y : Mem} {H0 : Heap} {v : Int32} (hx : p.tables.exec = Jvm.exec) (hb : c.code = cc) (hml : c.maxLocals = nL) (hown : s.vm.findClass own = some m.cls) (htg : ∀ w ∈ wsG, w.before args s = true) (hK : Kt G s) (hW : Wh G x y H) (hS : va_S (gF G) H0 H locs) (h : m_X12_interlocks y = some v) (hlk : Cond.methodLink own idx yX12_interlocks ∈ wsG) (hn : ls.size = nL) (hr : (rest.map fun v => v.category).sum ≤ 8) (hR1 : 0 + 1 ≤ R.frames) (hR2 : 8 + (4 + 11) + 0 ≤ R.locals) (hf : cells ≤ R.cells ∧ slots ≤ R.slots) (hdg : decode cc pc = .ok (.invokevirtual idx, 3)) (kk : ∀ (H1 : Heap) (locs1 : List Loc), Wh G x y H1 → va_S (gF G) H0 H1 locs1 → W p l e R s m args below meth c H1 locs1 cells slots Q (F0 m (pc + 3) ls (.int v :: rest))) : W p l e R s m args below meth c H locs cells slots Q (F0 m pc ls (.ref (gA G 40 0 0) :: rest)) := by
  refine va_calli (va_runV (As := []) (rest := rest) ⟨hx, hb, hml, hown, htg⟩ (c_X12_interlocks l G x y v h) (cwV 0 htg (gd_V hlk q1034 q1035 q5 q1036) rfl rfl rfl (by decide +kernel) ⟨hR1, hR2⟩) ⟨fun a U g mk q => ⟨q.1, q.2.1.calling, q.2.2⟩, rc_40 hK hW, fun U hU hW9 => ⟨rfl, hK.warm hW9, by rw [hU]; exact hW⟩⟩ rfl rfl hn rfl (lv_room hr) hdg hf) hS (fun _ _ h9 => h9) (fun _ h9 => h9) ?_
  intro r9 u t H1 locs1 ht hvm hw hB hz1 hk1 hS1
  replace hB : Wh G x y t.heap := hB
  rw [ht] at hB
  replace hw : r9 = v := hw
  subst hw
  exact kk H1 locs1 hB hS1
/-! METHOD X12_account -/
def m_X12_account (p0 : Int32) (y : Mem) : Option (Int32 × Mem) :=
  bd_ (m_X12_isBetween p0 (0 : Int32) (9 : Int32)) fun r2 => if r2 = 0 then (bd2_ (m_X12_fails (1 : Int32) y) fun r21 y22 => some (r21, y22)) else (lt_ (up4 y 40 0 0 0 (0 : Int32)) fun y4 => if p0 = (0 : Int32) then (some ((y4 40 0 0 33), y4)) else if p0 = (1 : Int32) then (some ((y4 40 0 0 34), y4)) else if p0 = (2 : Int32) then (some ((y4 40 0 0 37), y4)) else if p0 = (3 : Int32) then (some ((y4 40 0 0 38), y4)) else if p0 = (4 : Int32) then (some ((y4 40 0 0 35), y4)) else if p0 = (5 : Int32) then (bd_ (m_X12_sum (104, 0, 0) 3 y4) fun r12 => some (r12, y4)) else if p0 = (6 : Int32) then (some ((y4 40 0 0 36), y4)) else if p0 = (7 : Int32) then (some ((y4 40 0 0 40), y4)) else if p0 = (8 : Int32) then (bd_ (m_X12_sum (120, 0, 0) 3 y4) fun r17 => some (r17, y4)) else (bd_ (m_X12_interlocks y4) fun r19 => some (r19, y4)))
abbrev WS_X12_account : List Cond := .code yX12_account cX12_account 2 (some .int) :: wsG
abbrev RM_X12_account : Room := { frames := 1, cells := 0, slots := 0, locals := 23 }
set_option maxHeartbeats 4000000 in
set_option maxRecDepth 100000 in
theorem c_X12_account (l : Launch) (G : Geo) (x y : Mem) (p0 : Int32) (r : (Int32 × Mem)) (h : m_X12_account p0 y = some r) : Met l yX12_account WS_X12_account RM_X12_account (Pw G x y [.ref (gA G 40 0 0), .int p0]) (Qi G x r.2 r.1) 0 0 (gF G) := by
  refine Met.ofW (cc := cX12_account) (maxL := 2) (ret := (some .int)) (by decide) rfl ?_
  intro p e s m args below meth c s₁ B hml hv
  obtain ⟨rfl, hK, hW⟩ := hv
  have hx := B.exec
  have hb := B.bytes
  have hr := B.returns
  have hts := atoms_spec (ws := WS_X12_account) B.pre
  have htg : ∀ w ∈ wsG, w.before _ s = true := fun w h => hts w (List.mem_cons_of_mem _ h)
  have hown : s.vm.findClass RX12 = some m.cls := findClass_of_methodNamed B.named
  have hlocks := B.notSynchronized
  have hS : va_S (gF G) s.heap s.heap [] := va_S.rf
  have hl := lv_entry ([.ref (gA G 40 0 0), .int p0]) (n := 2) (Nat.le_of_ble_eq_true rfl)
  rw [lg_entry_eq]
  generalize (lg_sl ([.ref (gA G 40 0 0), .int p0]) ++ List.replicate (2 - (lg_sl ([.ref (gA G 40 0 0), .int p0])).length) Slot.unset).toArray = ls at hl ⊢
  have hl : lv_has ls 2 [(0, .ref (gA G 40 0 0)), (1, .int p0)] := hl
  have hX := h
  unfold m_X12_account at hX
  refine lv_iload_n hx hb dX12_account_0 rfl (lv_at hl 1 rfl) ?_
  refine lv_iconst (v := (0 : Int32)) hx hb dX12_account_1 (by decide) ?_
  refine lv_bipush (v := (9 : Int32)) hx hb dX12_account_2 (by decide) ?_
  obtain ⟨r2, h1, hX⟩ := bd_go hX
  refine k_X12_isBetween hx hb hml hown htg hK hW hS h1 q319 hl.1 (Nat.le_of_ble_eq_true rfl) (Nat.le_of_ble_eq_true rfl) (Nat.le_of_ble_eq_true rfl) ⟨Nat.zero_le _, Nat.zero_le _⟩ dX12_account_4 (fun H locs hW hS => ?_)
  refine lv_if_ne (tgt := 16) hx hb dX12_account_7 (by decide) (fun c3 => ?_) (fun c3 => ?_)
  · have hX := it_f hX c3
    refine lv_aload_n hx hb dX12_account_16 rfl (lv_at hl 0 rfl) ?_
    refine lv_iconst (v := (0 : Int32)) hx hb dX12_account_17 (by decide) ?_
    refine pf_40_0 hx hb htg hown hK hW hS q311 dX12_account_18 (fun H locs hW hS => ?_)
    obtain ⟨y4, e9⟩ : ∃ w : Mem, w = (up4 y 40 0 0 0 (0 : Int32)) := ⟨_, rfl⟩
    rw [← e9] at hW
    have hX := lt_go hX e9
    refine lv_iload_n hx hb dX12_account_21 rfl (lv_at hl 1 rfl) ?_
    by_cases c5 : p0 = (0 : Int32)
    · have hX := it_t hX c5
      refine lv_tsIn (v := (0 : Int32)) (tgt := 72) hx hb dX12_account_22 c5 rfl (by decide) (by decide) rfl (by decide) ?_
      refine lv_aload_n hx hb dX12_account_72 rfl (lv_at hl 0 rfl) ?_
      refine gf_40_33 hx hb htg hown hK hW q352 dX12_account_73 ?_
      have hX := Option.some.inj hX
      subst hX
      exact rt_i hx hb hr hlocks hW hS dX12_account_76
    have hX := it_f hX c5
    by_cases c6 : p0 = (1 : Int32)
    · have hX := it_t hX c6
      refine lv_tsIn (v := (1 : Int32)) (tgt := 77) hx hb dX12_account_22 c6 rfl (by decide) (by decide) rfl (by decide) ?_
      refine lv_aload_n hx hb dX12_account_77 rfl (lv_at hl 0 rfl) ?_
      refine gf_40_34 hx hb htg hown hK hW q353 dX12_account_78 ?_
      have hX := Option.some.inj hX
      subst hX
      exact rt_i hx hb hr hlocks hW hS dX12_account_81
    have hX := it_f hX c6
    by_cases c7 : p0 = (2 : Int32)
    · have hX := it_t hX c7
      refine lv_tsIn (v := (2 : Int32)) (tgt := 82) hx hb dX12_account_22 c7 rfl (by decide) (by decide) rfl (by decide) ?_
      refine lv_aload_n hx hb dX12_account_82 rfl (lv_at hl 0 rfl) ?_
      refine gf_40_37 hx hb htg hown hK hW q356 dX12_account_83 ?_
      have hX := Option.some.inj hX
      subst hX
      exact rt_i hx hb hr hlocks hW hS dX12_account_86
    have hX := it_f hX c7
    by_cases c8 : p0 = (3 : Int32)
    · have hX := it_t hX c8
      refine lv_tsIn (v := (3 : Int32)) (tgt := 87) hx hb dX12_account_22 c8 rfl (by decide) (by decide) rfl (by decide) ?_
      refine lv_aload_n hx hb dX12_account_87 rfl (lv_at hl 0 rfl) ?_
      refine gf_40_38 hx hb htg hown hK hW q357 dX12_account_88 ?_
      have hX := Option.some.inj hX
      subst hX
      exact rt_i hx hb hr hlocks hW hS dX12_account_91
    have hX := it_f hX c8
    by_cases c9 : p0 = (4 : Int32)
    · have hX := it_t hX c9
      refine lv_tsIn (v := (4 : Int32)) (tgt := 92) hx hb dX12_account_22 c9 rfl (by decide) (by decide) rfl (by decide) ?_
      refine lv_aload_n hx hb dX12_account_92 rfl (lv_at hl 0 rfl) ?_
      refine gf_40_35 hx hb htg hown hK hW q354 dX12_account_93 ?_
      have hX := Option.some.inj hX
      subst hX
      exact rt_i hx hb hr hlocks hW hS dX12_account_96
    have hX := it_f hX c9
    by_cases c10 : p0 = (5 : Int32)
    · have hX := it_t hX c10
      refine lv_tsIn (v := (5 : Int32)) (tgt := 97) hx hb dX12_account_22 c10 rfl (by decide) (by decide) rfl (by decide) ?_
      refine lv_aload_n hx hb dX12_account_97 rfl (lv_at hl 0 rfl) ?_
      refine gf_40_4 hx hb htg hown hK hW q139 dX12_account_98 ?_
      obtain ⟨r12, h11, hX⟩ := bd_go hX
      refine k_X12_sum hx hb hml hown htg hK hW hS (ia_104) (show ¬ (104 : Nat) < 40 by decide) h11 q1030 hl.1 (Nat.le_of_ble_eq_true rfl) (Nat.le_of_ble_eq_true rfl) (Nat.le_of_ble_eq_true rfl) ⟨Nat.zero_le _, Nat.zero_le _⟩ dX12_account_101 (fun H locs hW hS => ?_)
      have hX := Option.some.inj hX
      subst hX
      exact rt_i hx hb hr hlocks hW hS dX12_account_104
    have hX := it_f hX c10
    by_cases c13 : p0 = (6 : Int32)
    · have hX := it_t hX c13
      refine lv_tsIn (v := (6 : Int32)) (tgt := 105) hx hb dX12_account_22 c13 rfl (by decide) (by decide) rfl (by decide) ?_
      refine lv_aload_n hx hb dX12_account_105 rfl (lv_at hl 0 rfl) ?_
      refine gf_40_36 hx hb htg hown hK hW q355 dX12_account_106 ?_
      have hX := Option.some.inj hX
      subst hX
      exact rt_i hx hb hr hlocks hW hS dX12_account_109
    have hX := it_f hX c13
    by_cases c14 : p0 = (7 : Int32)
    · have hX := it_t hX c14
      refine lv_tsIn (v := (7 : Int32)) (tgt := 110) hx hb dX12_account_22 c14 rfl (by decide) (by decide) rfl (by decide) ?_
      refine lv_aload_n hx hb dX12_account_110 rfl (lv_at hl 0 rfl) ?_
      refine gf_40_40 hx hb htg hown hK hW q359 dX12_account_111 ?_
      have hX := Option.some.inj hX
      subst hX
      exact rt_i hx hb hr hlocks hW hS dX12_account_114
    have hX := it_f hX c14
    by_cases c15 : p0 = (8 : Int32)
    · have hX := it_t hX c15
      refine lv_tsIn (v := (8 : Int32)) (tgt := 115) hx hb dX12_account_22 c15 rfl (by decide) (by decide) rfl (by decide) ?_
      refine lv_aload_n hx hb dX12_account_115 rfl (lv_at hl 0 rfl) ?_
      refine gf_40_20 hx hb htg hown hK hW q155 dX12_account_116 ?_
      obtain ⟨r17, h16, hX⟩ := bd_go hX
      refine k_X12_sum hx hb hml hown htg hK hW hS (ia_120) (show ¬ (120 : Nat) < 40 by decide) h16 q1030 hl.1 (Nat.le_of_ble_eq_true rfl) (Nat.le_of_ble_eq_true rfl) (Nat.le_of_ble_eq_true rfl) ⟨Nat.zero_le _, Nat.zero_le _⟩ dX12_account_119 (fun H locs hW hS => ?_)
      have hX := Option.some.inj hX
      subst hX
      exact rt_i hx hb hr hlocks hW hS dX12_account_122
    have hX := it_f hX c15
    refine lv_tsOut (n := 8) (tgt := 123) hx hb dX12_account_22 (by decide) (fun j hj => match j, hj with | 0, _ => c5 | 1, _ => c6 | 2, _ => c7 | 3, _ => c8 | 4, _ => c9 | 5, _ => c10 | 6, _ => c13 | 7, _ => c14 | 8, _ => c15 | j + 9, hj => absurd hj (by omega)) (by decide) ?_
    refine lv_aload_n hx hb dX12_account_123 rfl (lv_at hl 0 rfl) ?_
    obtain ⟨r19, h18, hX⟩ := bd_go hX
    refine k_X12_interlocks hx hb hml hown htg hK hW hS h18 q1033 hl.1 (Nat.le_of_ble_eq_true rfl) (Nat.le_of_ble_eq_true rfl) (Nat.le_of_ble_eq_true rfl) ⟨Nat.zero_le _, Nat.zero_le _⟩ dX12_account_124 (fun H locs hW hS => ?_)
    have hX := Option.some.inj hX
    subst hX
    exact rt_i hx hb hr hlocks hW hS dX12_account_127
  · have hX := it_t hX c3
    refine lv_aload_n hx hb dX12_account_10 rfl (lv_at hl 0 rfl) ?_
    refine lv_iconst (v := (1 : Int32)) hx hb dX12_account_11 (by decide) ?_
    obtain ⟨r21, y22, h20, hX⟩ := bd2_go hX
    refine k_X12_fails hx hb hml hown htg hK hW hS h20 q407 hl.1 (Nat.le_of_ble_eq_true rfl) (Nat.le_of_ble_eq_true rfl) (Nat.le_of_ble_eq_true rfl) ⟨Nat.zero_le _, Nat.zero_le _⟩ dX12_account_12 (fun H locs hW hS => ?_)
    have hX := Option.some.inj hX
    subst hX
    exact rt_i hx hb hr hlocks hW hS dX12_account_15
set_option maxHeartbeats 4000000 in
theorem k_X12_account {p : Program} {l : Launch} {e : Env} {R : Room} {s : State} {m : MethodId} {args : Array Value} {below : List Frame} {meth : Method} {c : Code} {H : Heap} {locs : List Loc} {cells slots : Nat} {Q : State → Prop} {cc : ByteArray} {pc nL idx : Nat} {own : String} {ls : Array Slot} {rest : List Value} {G : Geo} {x y : Mem} {H0 : Heap} {p0 : Int32} {v : Int32} {z : Mem} (hx : p.tables.exec = Jvm.exec) (hb : c.code = cc) (hml : c.maxLocals = nL) (hown : s.vm.findClass own = some m.cls) (htg : ∀ w ∈ wsG, w.before args s = true) (hK : Kt G s) (hW : Wh G x y H) (hS : va_S (gF G) H0 H locs) (h : m_X12_account p0 y = some (v, z)) (hlk : Cond.methodLink own idx yX12_account ∈ wsG) (hn : ls.size = nL) (hr : (rest.map fun v => v.category).sum ≤ 8) (hR1 : 1 + 1 ≤ R.frames) (hR2 : 8 + (2 + 11) + 23 ≤ R.locals) (hf : cells ≤ R.cells ∧ slots ≤ R.slots) (hdg : decode cc pc = .ok (.invokevirtual idx, 3)) (kk : ∀ (H1 : Heap) (locs1 : List Loc), Wh G x z H1 → va_S (gF G) H0 H1 locs1 → W p l e R s m args below meth c H1 locs1 cells slots Q (F0 m (pc + 3) ls (.int v :: rest))) : W p l e R s m args below meth c H locs cells slots Q (F0 m pc ls (.int p0 :: .ref (gA G 40 0 0) :: rest)) := by
  refine va_calli (va_runV (As := [.int p0]) (rest := rest) ⟨hx, hb, hml, hown, htg⟩ (c_X12_account l G x y p0 (v, z) h) (cwV 1 htg (gd_V hlk q1027 q1028 q5 q1029) rfl rfl rfl (by decide +kernel) ⟨hR1, hR2⟩) ⟨fun a U g mk q => ⟨q.1, q.2.1.calling, q.2.2⟩, rc_40 hK hW, fun U hU hW9 => ⟨rfl, hK.warm hW9, by rw [hU]; exact hW⟩⟩ rfl rfl hn rfl (lv_room hr) hdg hf) hS (fun _ _ h9 => h9) (fun _ h9 => h9) ?_
  intro r9 u t H1 locs1 ht hvm hw hB hz1 hk1 hS1
  replace hB : Wh G x z t.heap := hB
  rw [ht] at hB
  replace hw : r9 = v := hw
  subst hw
  exact kk H1 locs1 hB hS1
