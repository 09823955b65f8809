/-! METHOD X12_answers -/
def m_X12_answers_j141 (p0 : Int32) (p1 : Int32) (p2 : Int32) (p3 : Int32) (k105 : Int32 → Int32 → Mem → Option (Int32 × Mem)) (x7 : Int32) (x8 : Int32) (y : Mem) : Option (Int32 × Mem) :=
  lt_ (x8 + (1 : Int32)) fun x8_50 => k105 x7 x8_50 y
def m_X12_answers_b105 (p0 : Int32) (p1 : Int32) (p2 : Int32) (p3 : Int32) (k105 : Int32 → Int32 → Mem → Option (Int32 × Mem)) (x7 : Int32) (x8 : Int32) (y : Mem) : Option (Int32 × Mem) :=
  if (3 : Int32) ≤ x8 then (bd_ (m_X12_findNow y) fun y25 => gd_ p0 3 (lt_ (up4 y25 141 0 0 p0.toNatClampNeg ((y25 141 0 0 p0.toNatClampNeg) ||| (shl32 (1 : Int32) x7))) fun y27 => lt_ (up4 y27 142 0 0 p0.toNatClampNeg p1) fun y28 => lt_ (up4 y28 143 0 0 p0.toNatClampNeg (p2 + (1 : Int32))) fun y29 => bd2_ (m_X12_findStuck y29) fun r31 y32 => lt_ r31 fun x8_33 => if 0 ≤ x8_33 then (bd2_ (m_X12_reasons (4 : Int32) x8_33 y32) fun r36 y37 => some (r36, y37)) else (bd2_ (m_X12_reasons (0 : Int32) (-1 : Int32) y32) fun r39 y40 => some (r39, y40)))) else (if x8 = p0 then (m_X12_answers_j141 p0 p1 p2 p3 k105 x7 x8 y) else (bd_ (m_X12_holds x8 y) fun r43 => bd_ (m_X12_conflicts x7 y) fun r45 => if (r43 &&& r45) = 0 then (m_X12_answers_j141 p0 p1 p2 p3 k105 x7 x8 y) else (bd2_ (m_X12_reasons (3 : Int32) x8 y) fun r48 y49 => some (r48, y49))))
def m_X12_answers_l105 (p0 : Int32) (p1 : Int32) (p2 : Int32) (p3 : Int32) : Nat → Int32 → Int32 → Mem → Option (Int32 × Mem)
  | 0, _, _, _ => none
  | n + 1, x7, x8, y => m_X12_answers_b105 p0 p1 p2 p3 (m_X12_answers_l105 p0 p1 p2 p3 n) x7 x8 y
def m_X12_answers_j94 (p0 : Int32) (p1 : Int32) (p2 : Int32) (p3 : Int32) (y : Mem) : Option (Int32 × Mem) :=
  bd_ (m_X12_zoneAt p1 p2 y) fun r19 => lt_ r19 fun x7_20 => lt_ (0 : Int32) fun x8_21 => m_X12_answers_l105 p0 p1 p2 p3 FU x7_20 x8_21 y
def m_X12_answers_j51 (p0 : Int32) (p1 : Int32) (p2 : Int32) (p3 : Int32) (x6 : Int32) (y : Mem) : Option (Int32 × Mem) :=
  if p3 = 0 then (m_X12_answers_j94 p0 p1 p2 p3 y) else (if x6 < 0 then (m_X12_answers_j94 p0 p1 p2 p3 y) else (gd_ x6 3 (if ((y 104 0 0 x6.toNatClampNeg) + (y 106 0 0 x6.toNatClampNeg)) < (y 103 0 0 x6.toNatClampNeg) then (m_X12_answers_j94 p0 p1 p2 p3 y) else (bd2_ (m_X12_reasons (2 : Int32) x6 y) fun r16 y17 => some (r16, y17)))))
def m_X12_answers (p0 : Int32) (p1 : Int32) (p2 : Int32) (p3 : Int32) (y : Mem) : Option (Int32 × Mem) :=
  gd_ p1 30 (lt_ (y 127 0 0 p1.toNatClampNeg) fun x5_2 => lt_ (y 128 0 0 p1.toNatClampNeg) fun x6_3 => if p3 = 0 then (m_X12_answers_j51 p0 p1 p2 p3 x6_3 y) else (if x5_2 < 0 then (m_X12_answers_j51 p0 p1 p2 p3 x6_3 y) else (gd_ x5_2 3 (if (y 107 0 0 x5_2.toNatClampNeg) < (y 104 0 0 x5_2.toNatClampNeg) then (m_X12_answers_j51 p0 p1 p2 p3 x6_3 y) else (bd2_ (m_X12_reasons (1 : Int32) x5_2 y) fun r9 y10 => some (r9, y10))))))
abbrev WS_X12_answers : List Cond := .code yX12_answers cX12_answers 9 (some .int) :: wsG
abbrev RM_X12_answers : Room := { frames := 4, cells := 0, slots := 0, locals := 88 }
set_option maxHeartbeats 4000000 in
set_option maxRecDepth 100000 in
theorem c_X12_answers (l : Launch) (G : Geo) (x y : Mem) (p0 : Int32) (p1 : Int32) (p2 : Int32) (p3 : Int32) (r : (Int32 × Mem)) (h : m_X12_answers p0 p1 p2 p3 y = some r) : Met l yX12_answers WS_X12_answers RM_X12_answers (Pw G x y [.ref (gA G 40 0 0), .int p0, .int p1, .int p2, .int p3]) (Qi G x r.2 r.1) 0 0 (gF G) := by
  refine Met.ofW (cc := cX12_answers) (maxL := 9) (ret := (some .int)) (by decide) rfl ?_
  intro p e s m args below meth c s₁ B hml hv
  obtain ⟨rfl, hK, hW⟩ := hv
  have hx := B.exec
  have hb := B.bytes
  have hr := B.returns
  have hts := atoms_spec (ws := WS_X12_answers) B.pre
  have htg : ∀ w ∈ wsG, w.before _ s = true := fun w h => hts w (List.mem_cons_of_mem _ h)
  have hown : s.vm.findClass RX12 = some m.cls := findClass_of_methodNamed B.named
  have hlocks := B.notSynchronized
  have hS : va_S (gF G) s.heap s.heap [] := va_S.rf
  have hl := lv_entry ([.ref (gA G 40 0 0), .int p0, .int p1, .int p2, .int p3]) (n := 9) (Nat.le_of_ble_eq_true rfl)
  rw [lg_entry_eq]
  generalize (lg_sl ([.ref (gA G 40 0 0), .int p0, .int p1, .int p2, .int p3]) ++ List.replicate (9 - (lg_sl ([.ref (gA G 40 0 0), .int p0, .int p1, .int p2, .int p3])).length) Slot.unset).toArray = ls at hl ⊢
  have hl : lv_has ls 9 [(0, .ref (gA G 40 0 0)), (1, .int p0), (2, .int p1), (3, .int p2), (4, .int p3)] := hl
  have hX := h
  unfold m_X12_answers at hX
  have J_141 : ∀ (k105 : Int32 → Int32 → Mem → Option (Int32 × Mem)) (hk105 : ∀ (x7 : Int32) (x8 : Int32) (y : Mem) (H : Heap) (locs : List Loc) (ls : Array Slot), Wh G x y H → va_S (gF G) s.heap H locs → lv_has ls 9 [(0, .ref (gA G 40 0 0)), (1, .int p0), (2, .int p1), (3, .int p2), (7, .int x7), (8, .int x8)] → k105 x7 x8 y = some r → W p l e (headSpec WS_X12_answers RM_X12_answers).room s m ([.ref (gA G 40 0 0), .int p0, .int p1, .int p2, .int p3] : List Value).toArray below meth c H locs 0 0 (MQ below (Qi G x r.2 r.1) ([.ref (gA G 40 0 0), .int p0, .int p1, .int p2, .int p3] : List Value).toArray s 0 0 (gF G)) (F0 m 105 ls [])), ∀ (x7 : Int32) (x8 : Int32) (y : Mem) (H : Heap) (locs : List Loc) (ls : Array Slot), Wh G x y H → va_S (gF G) s.heap H locs → lv_has ls 9 [(0, .ref (gA G 40 0 0)), (1, .int p0), (2, .int p1), (3, .int p2), (7, .int x7), (8, .int x8)] → m_X12_answers_j141 p0 p1 p2 p3 k105 x7 x8 y = some r → W p l e (headSpec WS_X12_answers RM_X12_answers).room s m ([.ref (gA G 40 0 0), .int p0, .int p1, .int p2, .int p3] : List Value).toArray below meth c H locs 0 0 (MQ below (Qi G x r.2 r.1) ([.ref (gA G 40 0 0), .int p0, .int p1, .int p2, .int p3] : List Value).toArray s 0 0 (gF G)) (F0 m 141 ls []) := by
    intro k105 hk105 x7 x8 y H locs ls hW hS hl hX
    unfold m_X12_answers_j141 at hX
    obtain ⟨x8_50, e9⟩ : ∃ w : Int32, w = (x8 + (1 : Int32)) := ⟨_, rfl⟩
    have hX := lt_go hX e9
    refine lv_iinc (v := x8_50) (lv' := [(8, .int x8_50), (0, .ref (gA G 40 0 0)), (1, .int p0), (2, .int p1), (3, .int p2), (7, .int x7)]) hx hb dX12_answers_141 hl (k := 5) rfl (by rw [e9]; rfl) (by decide) rfl (fun ls hl => ?_)
    refine lv_goto (tgt := 105) hx hb dX12_answers_144 (by decide) ?_
    exact hk105 _ _ _ _ _ _ hW hS (lv_sub hl [1, 2, 3, 4, 5, 0] rfl) hX
  have B_105 : ∀ (k105 : Int32 → Int32 → Mem → Option (Int32 × Mem)) (hk105 : ∀ (x7 : Int32) (x8 : Int32) (y : Mem) (H : Heap) (locs : List Loc) (ls : Array Slot), Wh G x y H → va_S (gF G) s.heap H locs → lv_has ls 9 [(0, .ref (gA G 40 0 0)), (1, .int p0), (2, .int p1), (3, .int p2), (7, .int x7), (8, .int x8)] → k105 x7 x8 y = some r → W p l e (headSpec WS_X12_answers RM_X12_answers).room s m ([.ref (gA G 40 0 0), .int p0, .int p1, .int p2, .int p3] : List Value).toArray below meth c H locs 0 0 (MQ below (Qi G x r.2 r.1) ([.ref (gA G 40 0 0), .int p0, .int p1, .int p2, .int p3] : List Value).toArray s 0 0 (gF G)) (F0 m 105 ls [])), ∀ (x7 : Int32) (x8 : Int32) (y : Mem) (H : Heap) (locs : List Loc) (ls : Array Slot), Wh G x y H → va_S (gF G) s.heap H locs → lv_has ls 9 [(0, .ref (gA G 40 0 0)), (1, .int p0), (2, .int p1), (3, .int p2), (7, .int x7), (8, .int x8)] → m_X12_answers_b105 p0 p1 p2 p3 k105 x7 x8 y = some r → W p l e (headSpec WS_X12_answers RM_X12_answers).room s m ([.ref (gA G 40 0 0), .int p0, .int p1, .int p2, .int p3] : List Value).toArray below meth c H locs 0 0 (MQ below (Qi G x r.2 r.1) ([.ref (gA G 40 0 0), .int p0, .int p1, .int p2, .int p3] : List Value).toArray s 0 0 (gF G)) (F0 m 105 ls []) := by
    intro k105 hk105 x7 x8 y H locs ls hW hS hl hX
    unfold m_X12_answers_b105 at hX
    refine lv_iload hx hb dX12_answers_105 (lv_at hl 5 rfl) ?_
    refine lv_iconst (v := (3 : Int32)) hx hb dX12_answers_107 (by decide) ?_
    refine lv_icmp_ge (tgt := 147) hx hb dX12_answers_108 (by decide) (fun c22 => ?_) (fun c22 => ?_)
    · have hX := it_t hX c22
      refine lv_aload_n hx hb dX12_answers_147 rfl (lv_at hl 0 rfl) ?_
      obtain ⟨y25, h23, hX⟩ := bd_go hX
      refine k_X12_findNow hx hb hml hown htg hK hW hS h23 q871 hl.1 (Nat.le_of_ble_eq_true rfl) (Nat.le_of_ble_eq_true rfl) (Nat.le_of_ble_eq_true rfl) ⟨Nat.zero_le _, Nat.zero_le _⟩ dX12_answers_148 (fun H locs hW hS => ?_)
      refine lv_aload_n hx hb dX12_answers_151 rfl (lv_at hl 0 rfl) ?_
      refine gf_40_41 hx hb htg hown hK hW q168 dX12_answers_152 ?_
      refine lv_iload_n hx hb dX12_answers_155 rfl (lv_at hl 1 rfl) ?_
      refine lv_dup2_11 hx hb dX12_answers_156 rfl rfl ?_
      obtain ⟨g26, hX⟩ := gd_go hX
      refine al_141 hx hb hK hW g26 dX12_answers_157 ?_
      refine lv_iconst (v := (1 : Int32)) hx hb dX12_answers_158 (by decide) ?_
      refine lv_iload hx hb dX12_answers_159 (lv_at hl 4 rfl) ?_
      refine lv_ishl_ hx hb dX12_answers_161 ?_
      refine lv_ior hx hb dX12_answers_162 ?_
      refine as_141 hx hb hK hW hS g26 dX12_answers_163 (fun H locs hW hS => ?_)
      obtain ⟨y27, e9⟩ : ∃ w : Mem, w = (up4 y25 141 0 0 p0.toNatClampNeg ((y25 141 0 0 p0.toNatClampNeg) ||| (shl32 (1 : Int32) x7))) := ⟨_, rfl⟩
      rw [← e9] at hW
      have hX := lt_go hX e9
      refine lv_aload_n hx hb dX12_answers_164 rfl (lv_at hl 0 rfl) ?_
      refine gf_40_42 hx hb htg hown hK hW q169 dX12_answers_165 ?_
      refine lv_iload_n hx hb dX12_answers_168 rfl (lv_at hl 1 rfl) ?_
      refine lv_iload_n hx hb dX12_answers_169 rfl (lv_at hl 2 rfl) ?_
      refine as_142 hx hb hK hW hS g26 dX12_answers_170 (fun H locs hW hS => ?_)
      obtain ⟨y28, e9⟩ : ∃ w : Mem, w = (up4 y27 142 0 0 p0.toNatClampNeg p1) := ⟨_, rfl⟩
      rw [← e9] at hW
      have hX := lt_go hX e9
      refine lv_aload_n hx hb dX12_answers_171 rfl (lv_at hl 0 rfl) ?_
      refine gf_40_43 hx hb htg hown hK hW q170 dX12_answers_172 ?_
      refine lv_iload_n hx hb dX12_answers_175 rfl (lv_at hl 1 rfl) ?_
      refine lv_iload_n hx hb dX12_answers_176 rfl (lv_at hl 3 rfl) ?_
      refine lv_iconst (v := (1 : Int32)) hx hb dX12_answers_177 (by decide) ?_
      refine lv_iadd hx hb dX12_answers_178 ?_
      refine as_143 hx hb hK hW hS g26 dX12_answers_179 (fun H locs hW hS => ?_)
      obtain ⟨y29, e9⟩ : ∃ w : Mem, w = (up4 y28 143 0 0 p0.toNatClampNeg (p2 + (1 : Int32))) := ⟨_, rfl⟩
      rw [← e9] at hW
      have hX := lt_go hX e9
      refine lv_aload_n hx hb dX12_answers_180 rfl (lv_at hl 0 rfl) ?_
      obtain ⟨r31, y32, h30, hX⟩ := bd2_go hX
      refine k_X12_findStuck hx hb hml hown htg hK hW hS h30 q875 hl.1 (Nat.le_of_ble_eq_true rfl) (Nat.le_of_ble_eq_true rfl) (Nat.le_of_ble_eq_true rfl) ⟨Nat.zero_le _, Nat.zero_le _⟩ dX12_answers_181 (fun H locs hW hS => ?_)
      refine lv_topi (fun x8_33 e9 => ?_)
      have hX := lt_go hX e9
      refine lv_istore (lv' := [(8, .int x8_33), (0, .ref (gA G 40 0 0)), (1, .int p0), (2, .int p1), (3, .int p2), (7, .int x7)]) hx hb dX12_answers_184 hl (by decide) rfl (fun ls hl => ?_)
      refine lv_iload hx hb dX12_answers_186 (lv_at hl 0 rfl) ?_
      refine lv_if_ge (tgt := 200) hx hb dX12_answers_188 (by decide) (fun c34 => ?_) (fun c34 => ?_)
      · have hX := it_t hX c34
        refine lv_aload_n hx hb dX12_answers_200 rfl (lv_at hl 1 rfl) ?_
        refine lv_iconst (v := (4 : Int32)) hx hb dX12_answers_201 (by decide) ?_
        refine lv_iload hx hb dX12_answers_202 (lv_at hl 0 rfl) ?_
        obtain ⟨r36, y37, h35, hX⟩ := bd2_go hX
        refine k_X12_reasons hx hb hml hown htg hK hW hS h35 q867 hl.1 (Nat.le_of_ble_eq_true rfl) (Nat.le_of_ble_eq_true rfl) (Nat.le_of_ble_eq_true rfl) ⟨Nat.zero_le _, Nat.zero_le _⟩ dX12_answers_204 (fun H locs hW hS => ?_)
        have hX := Option.some.inj hX
        subst hX
        exact rt_i hx hb hr hlocks hW hS dX12_answers_207
      · have hX := it_f hX c34
        refine lv_aload_n hx hb dX12_answers_191 rfl (lv_at hl 1 rfl) ?_
        refine lv_iconst (v := (0 : Int32)) hx hb dX12_answers_192 (by decide) ?_
        refine lv_iconst (v := (-1 : Int32)) hx hb dX12_answers_193 (by decide) ?_
        obtain ⟨r39, y40, h38, hX⟩ := bd2_go hX
        refine k_X12_reasons hx hb hml hown htg hK hW hS h38 q867 hl.1 (Nat.le_of_ble_eq_true rfl) (Nat.le_of_ble_eq_true rfl) (Nat.le_of_ble_eq_true rfl) ⟨Nat.zero_le _, Nat.zero_le _⟩ dX12_answers_194 (fun H locs hW hS => ?_)
        refine lv_goto (tgt := 207) hx hb dX12_answers_197 (by decide) ?_
        have hX := Option.some.inj hX
        subst hX
        exact rt_i hx hb hr hlocks hW hS dX12_answers_207
    · have hX := it_f hX c22
      refine lv_iload hx hb dX12_answers_111 (lv_at hl 5 rfl) ?_
      refine lv_iload_n hx hb dX12_answers_113 rfl (lv_at hl 1 rfl) ?_
      refine lv_icmp_eq (tgt := 141) hx hb dX12_answers_114 (by decide) (fun c41 => ?_) (fun c41 => ?_)
      · have hX := it_t hX c41
        exact J_141 k105 hk105 _ _ _ _ _ _ hW hS (lv_sub hl [0, 1, 2, 3, 4, 5] rfl) hX
      · have hX := it_f hX c41
        refine lv_aload_n hx hb dX12_answers_117 rfl (lv_at hl 0 rfl) ?_
        refine lv_iload hx hb dX12_answers_118 (lv_at hl 5 rfl) ?_
        obtain ⟨r43, h42, hX⟩ := bd_go hX
        refine k_X12_holds hx hb hml hown htg hK hW hS h42 q326 hl.1 (Nat.le_of_ble_eq_true rfl) (Nat.le_of_ble_eq_true rfl) (Nat.le_of_ble_eq_true rfl) ⟨Nat.zero_le _, Nat.zero_le _⟩ dX12_answers_120 (fun H locs hW hS => ?_)
        refine lv_aload_n hx hb dX12_answers_123 rfl (lv_at hl 0 rfl) ?_
        refine lv_iload hx hb dX12_answers_124 (lv_at hl 4 rfl) ?_
        obtain ⟨r45, h44, hX⟩ := bd_go hX
        refine k_X12_conflicts hx hb hml hown htg hK hW hS h44 q490 hl.1 (Nat.le_of_ble_eq_true rfl) (Nat.le_of_ble_eq_true rfl) (Nat.le_of_ble_eq_true rfl) ⟨Nat.zero_le _, Nat.zero_le _⟩ dX12_answers_126 (fun H locs hW hS => ?_)
        refine lv_iand hx hb dX12_answers_129 ?_
        refine lv_if_eq (tgt := 141) hx hb dX12_answers_130 (by decide) (fun c46 => ?_) (fun c46 => ?_)
        · have hX := it_t hX c46
          exact J_141 k105 hk105 _ _ _ _ _ _ hW hS (lv_sub hl [0, 1, 2, 3, 4, 5] rfl) hX
        · have hX := it_f hX c46
          refine lv_aload_n hx hb dX12_answers_133 rfl (lv_at hl 0 rfl) ?_
          refine lv_iconst (v := (3 : Int32)) hx hb dX12_answers_134 (by decide) ?_
          refine lv_iload hx hb dX12_answers_135 (lv_at hl 5 rfl) ?_
          obtain ⟨r48, y49, h47, hX⟩ := bd2_go hX
          refine k_X12_reasons hx hb hml hown htg hK hW hS h47 q867 hl.1 (Nat.le_of_ble_eq_true rfl) (Nat.le_of_ble_eq_true rfl) (Nat.le_of_ble_eq_true rfl) ⟨Nat.zero_le _, Nat.zero_le _⟩ dX12_answers_137 (fun H locs hW hS => ?_)
          have hX := Option.some.inj hX
          subst hX
          exact rt_i hx hb hr hlocks hW hS dX12_answers_140
  have L_105 : ∀ (n : Nat), ∀ (x7 : Int32) (x8 : Int32) (y : Mem) (H : Heap) (locs : List Loc) (ls : Array Slot), Wh G x y H → va_S (gF G) s.heap H locs → lv_has ls 9 [(0, .ref (gA G 40 0 0)), (1, .int p0), (2, .int p1), (3, .int p2), (7, .int x7), (8, .int x8)] → m_X12_answers_l105 p0 p1 p2 p3 n x7 x8 y = some r → W p l e (headSpec WS_X12_answers RM_X12_answers).room s m ([.ref (gA G 40 0 0), .int p0, .int p1, .int p2, .int p3] : List Value).toArray below meth c H locs 0 0 (MQ below (Qi G x r.2 r.1) ([.ref (gA G 40 0 0), .int p0, .int p1, .int p2, .int p3] : List Value).toArray s 0 0 (gF G)) (F0 m 105 ls []) := by
    intro n
    induction n with
    | zero => intro x7 x8 y H locs ls hW hS hl hX; exact no_go hX
    | succ n ih => intro x7 x8 y H locs ls hW hS hl hX; exact B_105 _ ih _ _ _ _ _ _ hW hS hl hX
  have J_94 : ∀ (y : Mem) (H : Heap) (locs : List Loc) (ls : Array Slot), Wh G x y H → va_S (gF G) s.heap H locs → lv_has ls 9 [(0, .ref (gA G 40 0 0)), (1, .int p0), (2, .int p1), (3, .int p2)] → m_X12_answers_j94 p0 p1 p2 p3 y = some r → W p l e (headSpec WS_X12_answers RM_X12_answers).room s m ([.ref (gA G 40 0 0), .int p0, .int p1, .int p2, .int p3] : List Value).toArray below meth c H locs 0 0 (MQ below (Qi G x r.2 r.1) ([.ref (gA G 40 0 0), .int p0, .int p1, .int p2, .int p3] : List Value).toArray s 0 0 (gF G)) (F0 m 94 ls []) := by
    intro y H locs ls hW hS hl hX
    unfold m_X12_answers_j94 at hX
    refine lv_aload_n hx hb dX12_answers_94 rfl (lv_at hl 0 rfl) ?_
    refine lv_iload_n hx hb dX12_answers_95 rfl (lv_at hl 2 rfl) ?_
    refine lv_iload_n hx hb dX12_answers_96 rfl (lv_at hl 3 rfl) ?_
    obtain ⟨r19, h18, hX⟩ := bd_go hX
    refine k_X12_zoneAt hx hb hml hown htg hK hW hS h18 q334 hl.1 (Nat.le_of_ble_eq_true rfl) (Nat.le_of_ble_eq_true rfl) (Nat.le_of_ble_eq_true rfl) ⟨Nat.zero_le _, Nat.zero_le _⟩ dX12_answers_97 (fun H locs hW hS => ?_)
    refine lv_topi (fun x7_20 e9 => ?_)
    have hX := lt_go hX e9
    refine lv_istore (lv' := [(7, .int x7_20), (0, .ref (gA G 40 0 0)), (1, .int p0), (2, .int p1), (3, .int p2)]) hx hb dX12_answers_100 hl (by decide) rfl (fun ls hl => ?_)
    refine lv_iconst (v := (0 : Int32)) hx hb dX12_answers_102 (by decide) ?_
    refine lv_topi (fun x8_21 e9 => ?_)
    have hX := lt_go hX e9
    refine lv_istore (lv' := [(8, .int x8_21), (7, .int x7_20), (0, .ref (gA G 40 0 0)), (1, .int p0), (2, .int p1), (3, .int p2)]) hx hb dX12_answers_103 hl (by decide) rfl (fun ls hl => ?_)
    exact L_105 FU _ _ _ _ _ _ hW hS (lv_sub hl [2, 3, 4, 5, 1, 0] rfl) hX
  have J_51 : ∀ (x6 : Int32) (y : Mem) (H : Heap) (locs : List Loc) (ls : Array Slot), Wh G x y H → va_S (gF G) s.heap H locs → lv_has ls 9 [(0, .ref (gA G 40 0 0)), (1, .int p0), (2, .int p1), (3, .int p2), (4, .int p3), (6, .int x6)] → m_X12_answers_j51 p0 p1 p2 p3 x6 y = some r → W p l e (headSpec WS_X12_answers RM_X12_answers).room s m ([.ref (gA G 40 0 0), .int p0, .int p1, .int p2, .int p3] : List Value).toArray below meth c H locs 0 0 (MQ below (Qi G x r.2 r.1) ([.ref (gA G 40 0 0), .int p0, .int p1, .int p2, .int p3] : List Value).toArray s 0 0 (gF G)) (F0 m 51 ls []) := by
    intro x6 y H locs ls hW hS hl hX
    unfold m_X12_answers_j51 at hX
    refine lv_iload hx hb dX12_answers_51 (lv_at hl 4 rfl) ?_
    refine lv_if_eq (tgt := 94) hx hb dX12_answers_53 (by decide) (fun c11 => ?_) (fun c11 => ?_)
    · have hX := it_t hX c11
      exact J_94 _ _ _ _ hW hS (lv_sub hl [0, 1, 2, 3] rfl) hX
    · have hX := it_f hX c11
      refine lv_iload hx hb dX12_answers_56 (lv_at hl 5 rfl) ?_
      refine lv_if_lt (tgt := 94) hx hb dX12_answers_58 (by decide) (fun c12 => ?_) (fun c12 => ?_)
      · have hX := it_t hX c12
        exact J_94 _ _ _ _ hW hS (lv_sub hl [0, 1, 2, 3] rfl) hX
      · have hX := it_f hX c12
        refine lv_aload_n hx hb dX12_answers_61 rfl (lv_at hl 0 rfl) ?_
        refine gf_40_4 hx hb htg hown hK hW q139 dX12_answers_62 ?_
        refine lv_iload hx hb dX12_answers_65 (lv_at hl 5 rfl) ?_
        obtain ⟨g13, hX⟩ := gd_go hX
        refine al_104 hx hb hK hW g13 dX12_answers_67 ?_
        refine lv_aload_n hx hb dX12_answers_68 rfl (lv_at hl 0 rfl) ?_
        refine gf_40_6 hx hb htg hown hK hW q141 dX12_answers_69 ?_
        refine lv_iload hx hb dX12_answers_72 (lv_at hl 5 rfl) ?_
        refine al_106 hx hb hK hW g13 dX12_answers_74 ?_
        refine lv_iadd hx hb dX12_answers_75 ?_
        refine lv_aload_n hx hb dX12_answers_76 rfl (lv_at hl 0 rfl) ?_
        refine gf_40_3 hx hb htg hown hK hW q138 dX12_answers_77 ?_
        refine lv_iload hx hb dX12_answers_80 (lv_at hl 5 rfl) ?_
        refine al_103 hx hb hK hW g13 dX12_answers_82 ?_
        refine lv_icmp_lt (tgt := 94) hx hb dX12_answers_83 (by decide) (fun c14 => ?_) (fun c14 => ?_)
        · have hX := it_t hX c14
          exact J_94 _ _ _ _ hW hS (lv_sub hl [0, 1, 2, 3] rfl) hX
        · have hX := it_f hX c14
          refine lv_aload_n hx hb dX12_answers_86 rfl (lv_at hl 0 rfl) ?_
          refine lv_iconst (v := (2 : Int32)) hx hb dX12_answers_87 (by decide) ?_
          refine lv_iload hx hb dX12_answers_88 (lv_at hl 5 rfl) ?_
          obtain ⟨r16, y17, h15, hX⟩ := bd2_go hX
          refine k_X12_reasons hx hb hml hown htg hK hW hS h15 q867 hl.1 (Nat.le_of_ble_eq_true rfl) (Nat.le_of_ble_eq_true rfl) (Nat.le_of_ble_eq_true rfl) ⟨Nat.zero_le _, Nat.zero_le _⟩ dX12_answers_90 (fun H locs hW hS => ?_)
          have hX := Option.some.inj hX
          subst hX
          exact rt_i hx hb hr hlocks hW hS dX12_answers_93
  refine lv_aload_n hx hb dX12_answers_0 rfl (lv_at hl 0 rfl) ?_
  refine gf_40_27 hx hb htg hown hK hW q162 dX12_answers_1 ?_
  refine lv_iload_n hx hb dX12_answers_4 rfl (lv_at hl 2 rfl) ?_
  obtain ⟨g1, hX⟩ := gd_go hX
  refine al_127 hx hb hK hW g1 dX12_answers_5 ?_
  refine lv_topi (fun x5_2 e9 => ?_)
  have hX := lt_go hX e9
  refine lv_istore (lv' := [(5, .int x5_2), (0, .ref (gA G 40 0 0)), (1, .int p0), (2, .int p1), (3, .int p2), (4, .int p3)]) hx hb dX12_answers_6 hl (by decide) rfl (fun ls hl => ?_)
  refine lv_aload_n hx hb dX12_answers_8 rfl (lv_at hl 1 rfl) ?_
  refine gf_40_28 hx hb htg hown hK hW q163 dX12_answers_9 ?_
  refine lv_iload_n hx hb dX12_answers_12 rfl (lv_at hl 3 rfl) ?_
  refine al_128 hx hb hK hW g1 dX12_answers_13 ?_
  refine lv_topi (fun x6_3 e9 => ?_)
  have hX := lt_go hX e9
  refine lv_istore (lv' := [(6, .int x6_3), (5, .int x5_2), (0, .ref (gA G 40 0 0)), (1, .int p0), (2, .int p1), (3, .int p2), (4, .int p3)]) hx hb dX12_answers_14 hl (by decide) rfl (fun ls hl => ?_)
  refine lv_iload hx hb dX12_answers_16 (lv_at hl 6 rfl) ?_
  refine lv_if_eq (tgt := 51) hx hb dX12_answers_18 (by decide) (fun c4 => ?_) (fun c4 => ?_)
  · have hX := it_t hX c4
    exact J_51 _ _ _ _ _ hW hS (lv_sub hl [2, 3, 4, 5, 6, 0] rfl) hX
  · have hX := it_f hX c4
    refine lv_iload hx hb dX12_answers_21 (lv_at hl 1 rfl) ?_
    refine lv_if_lt (tgt := 51) hx hb dX12_answers_23 (by decide) (fun c5 => ?_) (fun c5 => ?_)
    · have hX := it_t hX c5
      exact J_51 _ _ _ _ _ hW hS (lv_sub hl [2, 3, 4, 5, 6, 0] rfl) hX
    · have hX := it_f hX c5
      refine lv_aload_n hx hb dX12_answers_26 rfl (lv_at hl 2 rfl) ?_
      refine gf_40_4 hx hb htg hown hK hW q139 dX12_answers_27 ?_
      refine lv_iload hx hb dX12_answers_30 (lv_at hl 1 rfl) ?_
      obtain ⟨g6, hX⟩ := gd_go hX
      refine al_104 hx hb hK hW g6 dX12_answers_32 ?_
      refine lv_aload_n hx hb dX12_answers_33 rfl (lv_at hl 2 rfl) ?_
      refine gf_40_7 hx hb htg hown hK hW q142 dX12_answers_34 ?_
      refine lv_iload hx hb dX12_answers_37 (lv_at hl 1 rfl) ?_
      refine al_107 hx hb hK hW g6 dX12_answers_39 ?_
      refine lv_icmp_gt (tgt := 51) hx hb dX12_answers_40 (by decide) (fun c7 => ?_) (fun c7 => ?_)
      · have hX := it_t hX c7
        exact J_51 _ _ _ _ _ hW hS (lv_sub hl [2, 3, 4, 5, 6, 0] rfl) hX
      · have hX := it_f hX c7
        refine lv_aload_n hx hb dX12_answers_43 rfl (lv_at hl 2 rfl) ?_
        refine lv_iconst (v := (1 : Int32)) hx hb dX12_answers_44 (by decide) ?_
        refine lv_iload hx hb dX12_answers_45 (lv_at hl 1 rfl) ?_
        obtain ⟨r9, y10, h8, hX⟩ := bd2_go hX
        refine k_X12_reasons hx hb hml hown htg hK hW hS h8 q867 hl.1 (Nat.le_of_ble_eq_true rfl) (Nat.le_of_ble_eq_true rfl) (Nat.le_of_ble_eq_true rfl) ⟨Nat.zero_le _, Nat.zero_le _⟩ dX12_answers_47 (fun H locs hW hS => ?_)
        have hX := Option.some.inj hX
        subst hX
        exact rt_i hx hb hr hlocks hW hS dX12_answers_50
set_option maxHeartbeats 4000000 in
theorem k_X12_answers {p : Program} {l : Launch} {e : Env} {R : Room} {s : State} {m : MethodId} {args : Array Value} {below : List Frame} {meth : Method} {c : Code} {H : Heap} {locs : List Loc} {cells slots : Nat} {Q : State → Prop} {cc : ByteArray} {pc nL idx : Nat} {own : String} {ls : Array Slot} {rest : List Value} {G : Geo} {x y : Mem} {H0 : Heap} {p0 : Int32} {p1 : Int32} {p2 : Int32} {p3 : Int32} {v : Int32} {z : Mem} (hx : p.tables.exec = Jvm.exec) (hb : c.code = cc) (hml : c.maxLocals = nL) (hown : s.vm.findClass own = some m.cls) (htg : ∀ w ∈ wsG, w.before args s = true) (hK : Kt G s) (hW : Wh G x y H) (hS : va_S (gF G) H0 H locs) (h : m_X12_answers p0 p1 p2 p3 y = some (v, z)) (hlk : Cond.methodLink own idx yX12_answers ∈ wsG) (hn : ls.size = nL) (hr : (rest.map fun v => v.category).sum ≤ 8) (hR1 : 4 + 1 ≤ R.frames) (hR2 : 8 + (9 + 11) + 88 ≤ R.locals) (hf : cells ≤ R.cells ∧ slots ≤ R.slots) (hdg : decode cc pc = .ok (.invokevirtual idx, 3)) (kk : ∀ (H1 : Heap) (locs1 : List Loc), Wh G x z H1 → va_S (gF G) H0 H1 locs1 → W p l e R s m args below meth c H1 locs1 cells slots Q (F0 m (pc + 3) ls (.int v :: rest))) : W p l e R s m args below meth c H locs cells slots Q (F0 m pc ls (.int p3 :: .int p2 :: .int p1 :: .int p0 :: .ref (gA G 40 0 0) :: rest)) := by
  refine va_calli (va_runV (As := [.int p0, .int p1, .int p2, .int p3]) (rest := rest) ⟨hx, hb, hml, hown, htg⟩ (c_X12_answers l G x y p0 p1 p2 p3 (v, z) h) (cwV 4 htg (gd_V hlk q864 q865 q5 q866) rfl rfl rfl (by decide +kernel) ⟨hR1, hR2⟩) ⟨fun a U g mk q => ⟨q.1, q.2.1.calling, q.2.2⟩, rc_40 hK hW, fun U hU hW9 => ⟨rfl, hK.warm hW9, by rw [hU]; exact hW⟩⟩ rfl rfl hn rfl (lv_room hr) hdg hf) hS (fun _ _ h9 => h9) (fun _ h9 => h9) ?_
  intro r9 u t H1 locs1 ht hvm hw hB hz1 hk1 hS1
  replace hB : Wh G x z t.heap := hB
  rw [ht] at hB
  replace hw : r9 = v := hw
  subst hw
  exact kk H1 locs1 hB hS1
/-! METHOD X12_isGranted -/
def m_X12_isGranted (p0 : Int32) (p1 : Int32) (p2 : Int32) (p3 : Int32) (y : Mem) : Option (Int32 × Mem) :=
  bd2_ (m_X12_answers p0 p1 p2 p3 y) fun r2 y3 => if r2 = 0 then (some ((1 : Int32), y3)) else (gd_ p0 3 (lt_ (up4 y3 118 0 0 p0.toNatClampNeg (y3 40 0 0 44)) fun y6 => lt_ (up4 y6 119 0 0 p0.toNatClampNeg (y6 40 0 0 45)) fun y7 => lt_ (up4 y7 120 0 0 p0.toNatClampNeg ((y7 120 0 0 p0.toNatClampNeg) + (1 : Int32))) fun y8 => lt_ (up4 y8 40 0 0 46 (1 : Int32)) fun y9 => some ((0 : Int32), y9)))
abbrev WS_X12_isGranted : List Cond := .code yX12_isGranted cX12_isGranted 5 (some .boolean) :: wsG
abbrev RM_X12_isGranted : Room := { frames := 5, cells := 0, slots := 0, locals := 116 }
set_option maxHeartbeats 4000000 in
set_option maxRecDepth 100000 in
theorem c_X12_isGranted (l : Launch) (G : Geo) (x y : Mem) (p0 : Int32) (p1 : Int32) (p2 : Int32) (p3 : Int32) (r : (Int32 × Mem)) (h : m_X12_isGranted p0 p1 p2 p3 y = some r) : Met l yX12_isGranted WS_X12_isGranted RM_X12_isGranted (Pw G x y [.ref (gA G 40 0 0), .int p0, .int p1, .int p2, .int p3]) (Qi G x r.2 r.1) 0 0 (gF G) := by
  refine Met.ofW (cc := cX12_isGranted) (maxL := 5) (ret := (some .boolean)) (by decide) rfl ?_
  intro p e s m args below meth c s₁ B hml hv
  obtain ⟨rfl, hK, hW⟩ := hv
  have hx := B.exec
  have hb := B.bytes
  have hr := B.returns
  have hts := atoms_spec (ws := WS_X12_isGranted) B.pre
  have htg : ∀ w ∈ wsG, w.before _ s = true := fun w h => hts w (List.mem_cons_of_mem _ h)
  have hown : s.vm.findClass RX12 = some m.cls := findClass_of_methodNamed B.named
  have hlocks := B.notSynchronized
  have hS : va_S (gF G) s.heap s.heap [] := va_S.rf
  have hl := lv_entry ([.ref (gA G 40 0 0), .int p0, .int p1, .int p2, .int p3]) (n := 5) (Nat.le_of_ble_eq_true rfl)
  rw [lg_entry_eq]
  generalize (lg_sl ([.ref (gA G 40 0 0), .int p0, .int p1, .int p2, .int p3]) ++ List.replicate (5 - (lg_sl ([.ref (gA G 40 0 0), .int p0, .int p1, .int p2, .int p3])).length) Slot.unset).toArray = ls at hl ⊢
  have hl : lv_has ls 5 [(0, .ref (gA G 40 0 0)), (1, .int p0), (2, .int p1), (3, .int p2), (4, .int p3)] := hl
  have hX := h
  unfold m_X12_isGranted at hX
  refine lv_aload_n hx hb dX12_isGranted_0 rfl (lv_at hl 0 rfl) ?_
  refine lv_iload_n hx hb dX12_isGranted_1 rfl (lv_at hl 1 rfl) ?_
  refine lv_iload_n hx hb dX12_isGranted_2 rfl (lv_at hl 2 rfl) ?_
  refine lv_iload_n hx hb dX12_isGranted_3 rfl (lv_at hl 3 rfl) ?_
  refine lv_iload hx hb dX12_isGranted_4 (lv_at hl 4 rfl) ?_
  obtain ⟨r2, y3, h1, hX⟩ := bd2_go hX
  refine k_X12_answers hx hb hml hown htg hK hW hS h1 q863 hl.1 (Nat.le_of_ble_eq_true rfl) (Nat.le_of_ble_eq_true rfl) (Nat.le_of_ble_eq_true rfl) ⟨Nat.zero_le _, Nat.zero_le _⟩ dX12_isGranted_6 (fun H locs hW hS => ?_)
  refine lv_if_ne (tgt := 14) hx hb dX12_isGranted_9 (by decide) (fun c4 => ?_) (fun c4 => ?_)
  · have hX := it_f hX c4
    refine lv_aload_n hx hb dX12_isGranted_14 rfl (lv_at hl 0 rfl) ?_
    refine gf_40_18 hx hb htg hown hK hW q153 dX12_isGranted_15 ?_
    refine lv_iload_n hx hb dX12_isGranted_18 rfl (lv_at hl 1 rfl) ?_
    refine lv_aload_n hx hb dX12_isGranted_19 rfl (lv_at hl 0 rfl) ?_
    refine gf_40_44 hx hb htg hown hK hW q861 dX12_isGranted_20 ?_
    obtain ⟨g5, hX⟩ := gd_go hX
    refine as_118 hx hb hK hW hS g5 dX12_isGranted_23 (fun H locs hW hS => ?_)
    obtain ⟨y6, e9⟩ : ∃ w : Mem, w = (up4 y3 118 0 0 p0.toNatClampNeg (y3 40 0 0 44)) := ⟨_, rfl⟩
    rw [← e9] at hW
    have hX := lt_go hX e9
    refine lv_aload_n hx hb dX12_isGranted_24 rfl (lv_at hl 0 rfl) ?_
    refine gf_40_19 hx hb htg hown hK hW q154 dX12_isGranted_25 ?_
    refine lv_iload_n hx hb dX12_isGranted_28 rfl (lv_at hl 1 rfl) ?_
    refine lv_aload_n hx hb dX12_isGranted_29 rfl (lv_at hl 0 rfl) ?_
    refine gf_40_45 hx hb htg hown hK hW q862 dX12_isGranted_30 ?_
    refine as_119 hx hb hK hW hS g5 dX12_isGranted_33 (fun H locs hW hS => ?_)
    obtain ⟨y7, e9⟩ : ∃ w : Mem, w = (up4 y6 119 0 0 p0.toNatClampNeg (y6 40 0 0 45)) := ⟨_, rfl⟩
    rw [← e9] at hW
    have hX := lt_go hX e9
    refine lv_aload_n hx hb dX12_isGranted_34 rfl (lv_at hl 0 rfl) ?_
    refine gf_40_20 hx hb htg hown hK hW q155 dX12_isGranted_35 ?_
    refine lv_iload_n hx hb dX12_isGranted_38 rfl (lv_at hl 1 rfl) ?_
    refine lv_dup2_11 hx hb dX12_isGranted_39 rfl rfl ?_
    refine al_120 hx hb hK hW g5 dX12_isGranted_40 ?_
    refine lv_iconst (v := (1 : Int32)) hx hb dX12_isGranted_41 (by decide) ?_
    refine lv_iadd hx hb dX12_isGranted_42 ?_
    refine as_120 hx hb hK hW hS g5 dX12_isGranted_43 (fun H locs hW hS => ?_)
    obtain ⟨y8, e9⟩ : ∃ w : Mem, w = (up4 y7 120 0 0 p0.toNatClampNeg ((y7 120 0 0 p0.toNatClampNeg) + (1 : Int32))) := ⟨_, rfl⟩
    rw [← e9] at hW
    have hX := lt_go hX e9
    refine lv_aload_n hx hb dX12_isGranted_44 rfl (lv_at hl 0 rfl) ?_
    refine lv_iconst (v := (1 : Int32)) hx hb dX12_isGranted_45 (by decide) ?_
    refine pf_40_46 hx hb htg hown hK hW hS q844 (by decide) dX12_isGranted_46 (fun H locs hW hS => ?_)
    obtain ⟨y9, e9⟩ : ∃ w : Mem, w = (up4 y8 40 0 0 46 (1 : Int32)) := ⟨_, rfl⟩
    rw [← e9] at hW
    have hX := lt_go hX e9
    refine lv_iconst (v := (0 : Int32)) hx hb dX12_isGranted_49 (by decide) ?_
    have hX := Option.some.inj hX
    subst hX
    exact rt_z hx hb hr hlocks hW hS nb0 dX12_isGranted_50
  · have hX := it_t hX c4
    refine lv_iconst (v := (1 : Int32)) hx hb dX12_isGranted_12 (by decide) ?_
    have hX := Option.some.inj hX
    subst hX
    exact rt_z hx hb hr hlocks hW hS nb1 dX12_isGranted_13
set_option maxHeartbeats 4000000 in
theorem k_X12_isGranted {p : Program} {l : Launch} {e : Env} {R : Room} {s : State} {m : MethodId} {args : Array Value} {below : List Frame} {meth : Method} {c : Code} {H : Heap} {locs : List Loc} {cells slots : Nat} {Q : State → Prop} {cc : ByteArray} {pc nL idx : Nat} {own : String} {ls : Array Slot} {rest : List Value} {G : Geo} {x y : Mem} {H0 : Heap} {p0 : Int32} {p1 : Int32} {p2 : Int32} {p3 : Int32} {v : Int32} {z : Mem} (hx : p.tables.exec = Jvm.exec) (hb : c.code = cc) (hml : c.maxLocals = nL) (hown : s.vm.findClass own = some m.cls) (htg : ∀ w ∈ wsG, w.before args s = true) (hK : Kt G s) (hW : Wh G x y H) (hS : va_S (gF G) H0 H locs) (h : m_X12_isGranted p0 p1 p2 p3 y = some (v, z)) (hlk : Cond.methodLink own idx yX12_isGranted ∈ wsG) (hn : ls.size = nL) (hr : (rest.map fun v => v.category).sum ≤ 8) (hR1 : 5 + 1 ≤ R.frames) (hR2 : 8 + (5 + 11) + 116 ≤ R.locals) (hf : cells ≤ R.cells ∧ slots ≤ R.slots) (hdg : decode cc pc = .ok (.invokevirtual idx, 3)) (kk : ∀ (H1 : Heap) (locs1 : List Loc), Wh G x z H1 → va_S (gF G) H0 H1 locs1 → W p l e R s m args below meth c H1 locs1 cells slots Q (F0 m (pc + 3) ls (.int v :: rest))) : W p l e R s m args below meth c H locs cells slots Q (F0 m pc ls (.int p3 :: .int p2 :: .int p1 :: .int p0 :: .ref (gA G 40 0 0) :: rest)) := by
  refine va_calli (va_runV (As := [.int p0, .int p1, .int p2, .int p3]) (rest := rest) ⟨hx, hb, hml, hown, htg⟩ (c_X12_isGranted l G x y p0 p1 p2 p3 (v, z) h) (cwV 4 htg (gd_V hlk q858 q859 q5 q860) rfl rfl rfl (by decide +kernel) ⟨hR1, hR2⟩) ⟨fun a U g mk q => ⟨q.1, q.2.1.calling, q.2.2⟩, rc_40 hK hW, fun U hU hW9 => ⟨rfl, hK.warm hW9, by rw [hU]; exact hW⟩⟩ rfl rfl hn rfl (lv_room hr) hdg hf) hS (fun _ _ h9 => h9) (fun _ h9 => h9) ?_
  intro r9 u t H1 locs1 ht hvm hw hB hz1 hk1 hS1
  replace hB : Wh G x z t.heap := hB
  rw [ht] at hB
  replace hw : r9 = v := hw
  subst hw
  exact kk H1 locs1 hB hS1
/-! METHOD X12_works -/
def m_X12_works (p0 : Int32) (p1 : Int32) (y : Mem) : Option Mem :=
  gd_ p0 3 (lt_ (up4 y 114 0 0 p0.toNatClampNeg (1 : Int32)) fun y2 => lt_ (up4 y2 115 0 0 p0.toNatClampNeg p1) fun y3 => gd_ (y3 113 0 0 p0.toNatClampNeg) 30 (lt_ (up4 y3 116 0 0 p0.toNatClampNeg (y3 125 0 0 (y3 113 0 0 p0.toNatClampNeg).toNatClampNeg)) fun y5 => some y5))
abbrev WS_X12_works : List Cond := .code yX12_works cX12_works 3 none :: wsG
abbrev RM_X12_works : Room := { frames := 0, cells := 0, slots := 0, locals := 0 }
set_option maxHeartbeats 4000000 in
set_option maxRecDepth 100000 in
theorem c_X12_works (l : Launch) (G : Geo) (x y : Mem) (p0 : Int32) (p1 : Int32) (r : Mem) (h : m_X12_works p0 p1 y = some r) : Met l yX12_works WS_X12_works RM_X12_works (Pw G x y [.ref (gA G 40 0 0), .int p0, .int p1]) (Qv G x r) 0 0 (gF G) := by
  refine Met.ofW (cc := cX12_works) (maxL := 3) (ret := none) (by decide) rfl ?_
  intro p e s m args below meth c s₁ B hml hv
  obtain ⟨rfl, hK, hW⟩ := hv
  have hx := B.exec
  have hb := B.bytes
  have hr := B.returns
  have hts := atoms_spec (ws := WS_X12_works) B.pre
  have htg : ∀ w ∈ wsG, w.before _ s = true := fun w h => hts w (List.mem_cons_of_mem _ h)
  have hown : s.vm.findClass RX12 = some m.cls := findClass_of_methodNamed B.named
  have hlocks := B.notSynchronized
  have hS : va_S (gF G) s.heap s.heap [] := va_S.rf
  have hl := lv_entry ([.ref (gA G 40 0 0), .int p0, .int p1]) (n := 3) (Nat.le_of_ble_eq_true rfl)
  rw [lg_entry_eq]
  generalize (lg_sl ([.ref (gA G 40 0 0), .int p0, .int p1]) ++ List.replicate (3 - (lg_sl ([.ref (gA G 40 0 0), .int p0, .int p1])).length) Slot.unset).toArray = ls at hl ⊢
  have hl : lv_has ls 3 [(0, .ref (gA G 40 0 0)), (1, .int p0), (2, .int p1)] := hl
  have hX := h
  unfold m_X12_works at hX
  refine lv_aload_n hx hb dX12_works_0 rfl (lv_at hl 0 rfl) ?_
  refine gf_40_14 hx hb htg hown hK hW q149 dX12_works_1 ?_
  refine lv_iload_n hx hb dX12_works_4 rfl (lv_at hl 1 rfl) ?_
  refine lv_iconst (v := (1 : Int32)) hx hb dX12_works_5 (by decide) ?_
  obtain ⟨g1, hX⟩ := gd_go hX
  refine as_114 hx hb hK hW hS g1 dX12_works_6 (fun H locs hW hS => ?_)
  obtain ⟨y2, e9⟩ : ∃ w : Mem, w = (up4 y 114 0 0 p0.toNatClampNeg (1 : Int32)) := ⟨_, rfl⟩
  rw [← e9] at hW
  have hX := lt_go hX e9
  refine lv_aload_n hx hb dX12_works_7 rfl (lv_at hl 0 rfl) ?_
  refine gf_40_15 hx hb htg hown hK hW q150 dX12_works_8 ?_
  refine lv_iload_n hx hb dX12_works_11 rfl (lv_at hl 1 rfl) ?_
  refine lv_iload_n hx hb dX12_works_12 rfl (lv_at hl 2 rfl) ?_
  refine as_115 hx hb hK hW hS g1 dX12_works_13 (fun H locs hW hS => ?_)
  obtain ⟨y3, e9⟩ : ∃ w : Mem, w = (up4 y2 115 0 0 p0.toNatClampNeg p1) := ⟨_, rfl⟩
  rw [← e9] at hW
  have hX := lt_go hX e9
  refine lv_aload_n hx hb dX12_works_14 rfl (lv_at hl 0 rfl) ?_
  refine gf_40_16 hx hb htg hown hK hW q151 dX12_works_15 ?_
  refine lv_iload_n hx hb dX12_works_18 rfl (lv_at hl 1 rfl) ?_
  refine lv_aload_n hx hb dX12_works_19 rfl (lv_at hl 0 rfl) ?_
  refine gf_40_25 hx hb htg hown hK hW q160 dX12_works_20 ?_
  refine lv_aload_n hx hb dX12_works_23 rfl (lv_at hl 0 rfl) ?_
  refine gf_40_13 hx hb htg hown hK hW q148 dX12_works_24 ?_
  refine lv_iload_n hx hb dX12_works_27 rfl (lv_at hl 1 rfl) ?_
  refine al_113 hx hb hK hW g1 dX12_works_28 ?_
  obtain ⟨g4, hX⟩ := gd_go hX
  refine al_125 hx hb hK hW g4 dX12_works_29 ?_
  refine as_116 hx hb hK hW hS g1 dX12_works_30 (fun H locs hW hS => ?_)
  obtain ⟨y5, e9⟩ : ∃ w : Mem, w = (up4 y3 116 0 0 p0.toNatClampNeg (y3 125 0 0 (y3 113 0 0 p0.toNatClampNeg).toNatClampNeg)) := ⟨_, rfl⟩
  rw [← e9] at hW
  have hX := lt_go hX e9
  have hX := Option.some.inj hX
  subst hX
  exact rt_v hx hb hr hlocks hW hS dX12_works_31
set_option maxHeartbeats 4000000 in
theorem k_X12_works {p : Program} {l : Launch} {e : Env} {R : Room} {s : State} {m : MethodId} {args : Array Value} {below : List Frame} {meth : Method} {c : Code} {H : Heap} {locs : List Loc} {cells slots : Nat} {Q : State → Prop} {cc : ByteArray} {pc nL idx : Nat} {own : String} {ls : Array Slot} {rest : List Value} {G : Geo} {x y : Mem} {H0 : Heap} {p0 : Int32} {p1 : Int32} {z : Mem} (hx : p.tables.exec = Jvm.exec) (hb : c.code = cc) (hml : c.maxLocals = nL) (hown : s.vm.findClass own = some m.cls) (htg : ∀ w ∈ wsG, w.before args s = true) (hK : Kt G s) (hW : Wh G x y H) (hS : va_S (gF G) H0 H locs) (h : m_X12_works p0 p1 y = some z) (hlk : Cond.methodLink own idx yX12_works ∈ wsG) (hn : ls.size = nL) (hr : (rest.map fun v => v.category).sum ≤ 8) (hR1 : 0 + 1 ≤ R.frames) (hR2 : 8 + (3 + 11) + 0 ≤ R.locals) (hf : cells ≤ R.cells ∧ slots ≤ R.slots) (hdg : decode cc pc = .ok (.invokevirtual idx, 3)) (kk : ∀ (H1 : Heap) (locs1 : List Loc), Wh G x z H1 → va_S (gF G) H0 H1 locs1 → W p l e R s m args below meth c H1 locs1 cells slots Q (F0 m (pc + 3) ls (rest))) : W p l e R s m args below meth c H locs cells slots Q (F0 m pc ls (.int p1 :: .int p0 :: .ref (gA G 40 0 0) :: rest)) := by
  refine va_callv (va_runV (As := [.int p0, .int p1]) (rest := rest) ⟨hx, hb, hml, hown, htg⟩ (c_X12_works l G x y p0 p1 z h) (cwV 2 htg (gd_V hlk q884 q885 q5 q886) rfl rfl rfl (by decide +kernel) ⟨hR1, hR2⟩) ⟨fun a U g mk q => ⟨q.1, q.2.1.calling, q.2.2⟩, rc_40 hK hW, fun U hU hW9 => ⟨rfl, hK.warm hW9, by rw [hU]; exact hW⟩⟩ rfl rfl hn rfl (lv_room hr) hdg hf) hS (fun _ _ h9 => h9) (fun _ h9 => h9) ?_
  intro u t H1 locs1 ht hvm hw hB hz1 hk1 hS1
  replace hB : Wh G x z t.heap := hB
  rw [ht] at hB
  exact kk H1 locs1 hB hS1
/-! METHOD X12_notes -/
def m_X12_notes_j55 (p0 : Int32) (p1 : Int32) (p2 : Int32) (y : Mem) : Option Mem :=
  lt_ ((4 : Int32) * (y 40 0 0 40)) fun x4_4 => gd_ x4_4 96 (lt_ (up4 y 132 0 0 x4_4.toNatClampNeg (y 40 0 0 33)) fun y6 => gd_ (x4_4 + (1 : Int32)) 96 (lt_ (up4 y6 132 0 0 (x4_4 + (1 : Int32)).toNatClampNeg p0) fun y8 => gd_ (x4_4 + (2 : Int32)) 96 (lt_ (up4 y8 132 0 0 (x4_4 + (2 : Int32)).toNatClampNeg p1) fun y10 => gd_ (x4_4 + (3 : Int32)) 96 (lt_ (up4 y10 132 0 0 (x4_4 + (3 : Int32)).toNatClampNeg p2) fun y12 => lt_ (up4 y12 40 0 0 40 ((y12 40 0 0 40) + (1 : Int32))) fun y13 => some y13))))
def m_X12_notes_b22 (p0 : Int32) (p1 : Int32) (p2 : Int32) (k22 : Int32 → Mem → Option Mem) (x4 : Int32) (y : Mem) : Option Mem :=
  if ((4 : Int32) * (y 40 0 0 40)) ≤ x4 then (m_X12_notes_j55 p0 p1 p2 y) else (gd_ (x4 + (4 : Int32)) 96 (gd_ x4 96 (lt_ (up4 y 132 0 0 x4.toNatClampNeg (y 132 0 0 (x4 + (4 : Int32)).toNatClampNeg)) fun y17 => lt_ (x4 + (1 : Int32)) fun x4_18 => k22 x4_18 y17)))
def m_X12_notes_l22 (p0 : Int32) (p1 : Int32) (p2 : Int32) : Nat → Int32 → Mem → Option Mem
  | 0, _, _ => none
  | n + 1, x4, y => m_X12_notes_b22 p0 p1 p2 (m_X12_notes_l22 p0 p1 p2 n) x4 y
def m_X12_notes (p0 : Int32) (p1 : Int32) (p2 : Int32) (y : Mem) : Option Mem :=
  if (y 40 0 0 40) = (24 : Int32) then (lt_ (up4 y 40 0 0 40 ((y 40 0 0 40) - (1 : Int32))) fun y2 => lt_ (0 : Int32) fun x4_3 => m_X12_notes_l22 p0 p1 p2 FU x4_3 y2) else (m_X12_notes_j55 p0 p1 p2 y)
abbrev WS_X12_notes : List Cond := .code yX12_notes cX12_notes 5 none :: wsG
abbrev RM_X12_notes : Room := { frames := 0, cells := 0, slots := 0, locals := 0 }
set_option maxHeartbeats 4000000 in
set_option maxRecDepth 100000 in
theorem c_X12_notes (l : Launch) (G : Geo) (x y : Mem) (p0 : Int32) (p1 : Int32) (p2 : Int32) (r : Mem) (h : m_X12_notes p0 p1 p2 y = some r) : Met l yX12_notes WS_X12_notes RM_X12_notes (Pw G x y [.ref (gA G 40 0 0), .int p0, .int p1, .int p2]) (Qv G x r) 0 0 (gF G) := by
  refine Met.ofW (cc := cX12_notes) (maxL := 5) (ret := none) (by decide) rfl ?_
  intro p e s m args below meth c s₁ B hml hv
  obtain ⟨rfl, hK, hW⟩ := hv
  have hx := B.exec
  have hb := B.bytes
  have hr := B.returns
  have hts := atoms_spec (ws := WS_X12_notes) B.pre
  have htg : ∀ w ∈ wsG, w.before _ s = true := fun w h => hts w (List.mem_cons_of_mem _ h)
  have hown : s.vm.findClass RX12 = some m.cls := findClass_of_methodNamed B.named
  have hlocks := B.notSynchronized
  have hS : va_S (gF G) s.heap s.heap [] := va_S.rf
  have hl := lv_entry ([.ref (gA G 40 0 0), .int p0, .int p1, .int p2]) (n := 5) (Nat.le_of_ble_eq_true rfl)
  rw [lg_entry_eq]
  generalize (lg_sl ([.ref (gA G 40 0 0), .int p0, .int p1, .int p2]) ++ List.replicate (5 - (lg_sl ([.ref (gA G 40 0 0), .int p0, .int p1, .int p2])).length) Slot.unset).toArray = ls at hl ⊢
  have hl : lv_has ls 5 [(0, .ref (gA G 40 0 0)), (1, .int p0), (2, .int p1), (3, .int p2)] := hl
  have hX := h
  unfold m_X12_notes at hX
  have J_55 : ∀ (y : Mem) (H : Heap) (locs : List Loc) (ls : Array Slot), Wh G x y H → va_S (gF G) s.heap H locs → lv_has ls 5 [(0, .ref (gA G 40 0 0)), (1, .int p0), (2, .int p1), (3, .int p2)] → m_X12_notes_j55 p0 p1 p2 y = some r → W p l e (headSpec WS_X12_notes RM_X12_notes).room s m ([.ref (gA G 40 0 0), .int p0, .int p1, .int p2] : List Value).toArray below meth c H locs 0 0 (MQ below (Qv G x r) ([.ref (gA G 40 0 0), .int p0, .int p1, .int p2] : List Value).toArray s 0 0 (gF G)) (F0 m 55 ls []) := by
    intro y H locs ls hW hS hl hX
    unfold m_X12_notes_j55 at hX
    refine lv_iconst (v := (4 : Int32)) hx hb dX12_notes_55 (by decide) ?_
    refine lv_aload_n hx hb dX12_notes_56 rfl (lv_at hl 0 rfl) ?_
    refine gf_40_40 hx hb htg hown hK hW q359 dX12_notes_57 ?_
    refine lv_imul hx hb dX12_notes_60 ?_
    refine lv_topi (fun x4_4 e9 => ?_)
    have hX := lt_go hX e9
    refine lv_istore (lv' := [(4, .int x4_4), (0, .ref (gA G 40 0 0)), (1, .int p0), (2, .int p1), (3, .int p2)]) hx hb dX12_notes_61 hl (by decide) rfl (fun ls hl => ?_)
    refine lv_aload_n hx hb dX12_notes_63 rfl (lv_at hl 1 rfl) ?_
    refine gf_40_32 hx hb htg hown hK hW q167 dX12_notes_64 ?_
    refine lv_iload hx hb dX12_notes_67 (lv_at hl 0 rfl) ?_
    refine lv_aload_n hx hb dX12_notes_69 rfl (lv_at hl 1 rfl) ?_
    refine gf_40_33 hx hb htg hown hK hW q352 dX12_notes_70 ?_
    obtain ⟨g5, hX⟩ := gd_go hX
    refine as_132 hx hb hK hW hS g5 dX12_notes_73 (fun H locs hW hS => ?_)
    obtain ⟨y6, e9⟩ : ∃ w : Mem, w = (up4 y 132 0 0 x4_4.toNatClampNeg (y 40 0 0 33)) := ⟨_, rfl⟩
    rw [← e9] at hW
    have hX := lt_go hX e9
    refine lv_aload_n hx hb dX12_notes_74 rfl (lv_at hl 1 rfl) ?_
    refine gf_40_32 hx hb htg hown hK hW q167 dX12_notes_75 ?_
    refine lv_iload hx hb dX12_notes_78 (lv_at hl 0 rfl) ?_
    refine lv_iconst (v := (1 : Int32)) hx hb dX12_notes_80 (by decide) ?_
    refine lv_iadd hx hb dX12_notes_81 ?_
    refine lv_iload_n hx hb dX12_notes_82 rfl (lv_at hl 2 rfl) ?_
    obtain ⟨g7, hX⟩ := gd_go hX
    refine as_132 hx hb hK hW hS g7 dX12_notes_83 (fun H locs hW hS => ?_)
    obtain ⟨y8, e9⟩ : ∃ w : Mem, w = (up4 y6 132 0 0 (x4_4 + (1 : Int32)).toNatClampNeg p0) := ⟨_, rfl⟩
    rw [← e9] at hW
    have hX := lt_go hX e9
    refine lv_aload_n hx hb dX12_notes_84 rfl (lv_at hl 1 rfl) ?_
    refine gf_40_32 hx hb htg hown hK hW q167 dX12_notes_85 ?_
    refine lv_iload hx hb dX12_notes_88 (lv_at hl 0 rfl) ?_
    refine lv_iconst (v := (2 : Int32)) hx hb dX12_notes_90 (by decide) ?_
    refine lv_iadd hx hb dX12_notes_91 ?_
    refine lv_iload_n hx hb dX12_notes_92 rfl (lv_at hl 3 rfl) ?_
    obtain ⟨g9, hX⟩ := gd_go hX
    refine as_132 hx hb hK hW hS g9 dX12_notes_93 (fun H locs hW hS => ?_)
    obtain ⟨y10, e9⟩ : ∃ w : Mem, w = (up4 y8 132 0 0 (x4_4 + (2 : Int32)).toNatClampNeg p1) := ⟨_, rfl⟩
    rw [← e9] at hW
    have hX := lt_go hX e9
    refine lv_aload_n hx hb dX12_notes_94 rfl (lv_at hl 1 rfl) ?_
    refine gf_40_32 hx hb htg hown hK hW q167 dX12_notes_95 ?_
    refine lv_iload hx hb dX12_notes_98 (lv_at hl 0 rfl) ?_
    refine lv_iconst (v := (3 : Int32)) hx hb dX12_notes_100 (by decide) ?_
    refine lv_iadd hx hb dX12_notes_101 ?_
    refine lv_iload_n hx hb dX12_notes_102 rfl (lv_at hl 4 rfl) ?_
    obtain ⟨g11, hX⟩ := gd_go hX
    refine as_132 hx hb hK hW hS g11 dX12_notes_103 (fun H locs hW hS => ?_)
    obtain ⟨y12, e9⟩ : ∃ w : Mem, w = (up4 y10 132 0 0 (x4_4 + (3 : Int32)).toNatClampNeg p2) := ⟨_, rfl⟩
    rw [← e9] at hW
    have hX := lt_go hX e9
    refine lv_aload_n hx hb dX12_notes_104 rfl (lv_at hl 1 rfl) ?_
    refine lv_dup hx hb dX12_notes_105 rfl ?_
    refine gf_40_40 hx hb htg hown hK hW q359 dX12_notes_106 ?_
    refine lv_iconst (v := (1 : Int32)) hx hb dX12_notes_109 (by decide) ?_
    refine lv_iadd hx hb dX12_notes_110 ?_
    refine pf_40_40 hx hb htg hown hK hW hS q359 dX12_notes_111 (fun H locs hW hS => ?_)
    obtain ⟨y13, e9⟩ : ∃ w : Mem, w = (up4 y12 40 0 0 40 ((y12 40 0 0 40) + (1 : Int32))) := ⟨_, rfl⟩
    rw [← e9] at hW
    have hX := lt_go hX e9
    have hX := Option.some.inj hX
    subst hX
    exact rt_v hx hb hr hlocks hW hS dX12_notes_114
  have B_22 : ∀ (k22 : Int32 → Mem → Option Mem) (hk22 : ∀ (x4 : Int32) (y : Mem) (H : Heap) (locs : List Loc) (ls : Array Slot), Wh G x y H → va_S (gF G) s.heap H locs → lv_has ls 5 [(0, .ref (gA G 40 0 0)), (1, .int p0), (2, .int p1), (3, .int p2), (4, .int x4)] → k22 x4 y = some r → W p l e (headSpec WS_X12_notes RM_X12_notes).room s m ([.ref (gA G 40 0 0), .int p0, .int p1, .int p2] : List Value).toArray below meth c H locs 0 0 (MQ below (Qv G x r) ([.ref (gA G 40 0 0), .int p0, .int p1, .int p2] : List Value).toArray s 0 0 (gF G)) (F0 m 22 ls [])), ∀ (x4 : Int32) (y : Mem) (H : Heap) (locs : List Loc) (ls : Array Slot), Wh G x y H → va_S (gF G) s.heap H locs → lv_has ls 5 [(0, .ref (gA G 40 0 0)), (1, .int p0), (2, .int p1), (3, .int p2), (4, .int x4)] → m_X12_notes_b22 p0 p1 p2 k22 x4 y = some r → W p l e (headSpec WS_X12_notes RM_X12_notes).room s m ([.ref (gA G 40 0 0), .int p0, .int p1, .int p2] : List Value).toArray below meth c H locs 0 0 (MQ below (Qv G x r) ([.ref (gA G 40 0 0), .int p0, .int p1, .int p2] : List Value).toArray s 0 0 (gF G)) (F0 m 22 ls []) := by
    intro k22 hk22 x4 y H locs ls hW hS hl hX
    unfold m_X12_notes_b22 at hX
    refine lv_iload hx hb dX12_notes_22 (lv_at hl 4 rfl) ?_
    refine lv_iconst (v := (4 : Int32)) hx hb dX12_notes_24 (by decide) ?_
    refine lv_aload_n hx hb dX12_notes_25 rfl (lv_at hl 0 rfl) ?_
    refine gf_40_40 hx hb htg hown hK hW q359 dX12_notes_26 ?_
    refine lv_imul hx hb dX12_notes_29 ?_
    refine lv_icmp_ge (tgt := 55) hx hb dX12_notes_30 (by decide) (fun c14 => ?_) (fun c14 => ?_)
    · have hX := it_t hX c14
      exact J_55 _ _ _ _ hW hS (lv_sub hl [0, 1, 2, 3] rfl) hX
    · have hX := it_f hX c14
      refine lv_aload_n hx hb dX12_notes_33 rfl (lv_at hl 0 rfl) ?_
      refine gf_40_32 hx hb htg hown hK hW q167 dX12_notes_34 ?_
      refine lv_iload hx hb dX12_notes_37 (lv_at hl 4 rfl) ?_
      refine lv_aload_n hx hb dX12_notes_39 rfl (lv_at hl 0 rfl) ?_
      refine gf_40_32 hx hb htg hown hK hW q167 dX12_notes_40 ?_
      refine lv_iload hx hb dX12_notes_43 (lv_at hl 4 rfl) ?_
      refine lv_iconst (v := (4 : Int32)) hx hb dX12_notes_45 (by decide) ?_
      refine lv_iadd hx hb dX12_notes_46 ?_
      obtain ⟨g15, hX⟩ := gd_go hX
      refine al_132 hx hb hK hW g15 dX12_notes_47 ?_
      obtain ⟨g16, hX⟩ := gd_go hX
      refine as_132 hx hb hK hW hS g16 dX12_notes_48 (fun H locs hW hS => ?_)
      obtain ⟨y17, e9⟩ : ∃ w : Mem, w = (up4 y 132 0 0 x4.toNatClampNeg (y 132 0 0 (x4 + (4 : Int32)).toNatClampNeg)) := ⟨_, rfl⟩
      rw [← e9] at hW
      have hX := lt_go hX e9
      obtain ⟨x4_18, e9⟩ : ∃ w : Int32, w = (x4 + (1 : Int32)) := ⟨_, rfl⟩
      have hX := lt_go hX e9
      refine lv_iinc (v := x4_18) (lv' := [(4, .int x4_18), (0, .ref (gA G 40 0 0)), (1, .int p0), (2, .int p1), (3, .int p2)]) hx hb dX12_notes_49 hl (k := 4) rfl (by rw [e9]; rfl) (by decide) rfl (fun ls hl => ?_)
      refine lv_goto (tgt := 22) hx hb dX12_notes_52 (by decide) ?_
      exact hk22 _ _ _ _ _ hW hS (lv_sub hl [1, 2, 3, 4, 0] rfl) hX
  have L_22 : ∀ (n : Nat), ∀ (x4 : Int32) (y : Mem) (H : Heap) (locs : List Loc) (ls : Array Slot), Wh G x y H → va_S (gF G) s.heap H locs → lv_has ls 5 [(0, .ref (gA G 40 0 0)), (1, .int p0), (2, .int p1), (3, .int p2), (4, .int x4)] → m_X12_notes_l22 p0 p1 p2 n x4 y = some r → W p l e (headSpec WS_X12_notes RM_X12_notes).room s m ([.ref (gA G 40 0 0), .int p0, .int p1, .int p2] : List Value).toArray below meth c H locs 0 0 (MQ below (Qv G x r) ([.ref (gA G 40 0 0), .int p0, .int p1, .int p2] : List Value).toArray s 0 0 (gF G)) (F0 m 22 ls []) := by
    intro n
    induction n with
    | zero => intro x4 y H locs ls hW hS hl hX; exact no_go hX
    | succ n ih => intro x4 y H locs ls hW hS hl hX; exact B_22 _ ih _ _ _ _ _ hW hS hl hX
  refine lv_aload_n hx hb dX12_notes_0 rfl (lv_at hl 0 rfl) ?_
  refine gf_40_40 hx hb htg hown hK hW q359 dX12_notes_1 ?_
  refine lv_bipush (v := (24 : Int32)) hx hb dX12_notes_4 (by decide) ?_
  refine lv_icmp_ne (tgt := 55) hx hb dX12_notes_6 (by decide) (fun c1 => ?_) (fun c1 => ?_)
  · have hX := it_f hX c1
    exact J_55 _ _ _ _ hW hS (lv_sub hl [0, 1, 2, 3] rfl) hX
  · have hX := it_t hX c1
    refine lv_aload_n hx hb dX12_notes_9 rfl (lv_at hl 0 rfl) ?_
    refine lv_dup hx hb dX12_notes_10 rfl ?_
    refine gf_40_40 hx hb htg hown hK hW q359 dX12_notes_11 ?_
    refine lv_iconst (v := (1 : Int32)) hx hb dX12_notes_14 (by decide) ?_
    refine lv_isub hx hb dX12_notes_15 ?_
    refine pf_40_40 hx hb htg hown hK hW hS q359 dX12_notes_16 (fun H locs hW hS => ?_)
    obtain ⟨y2, e9⟩ : ∃ w : Mem, w = (up4 y 40 0 0 40 ((y 40 0 0 40) - (1 : Int32))) := ⟨_, rfl⟩
    rw [← e9] at hW
    have hX := lt_go hX e9
    refine lv_iconst (v := (0 : Int32)) hx hb dX12_notes_19 (by decide) ?_
    refine lv_topi (fun x4_3 e9 => ?_)
    have hX := lt_go hX e9
    refine lv_istore (lv' := [(4, .int x4_3), (0, .ref (gA G 40 0 0)), (1, .int p0), (2, .int p1), (3, .int p2)]) hx hb dX12_notes_20 hl (by decide) rfl (fun ls hl => ?_)
    exact L_22 FU _ _ _ _ _ hW hS (lv_sub hl [1, 2, 3, 4, 0] rfl) hX
set_option maxHeartbeats 4000000 in
theorem k_X12_notes {p : Program} {l : Launch} {e : Env} {R : Room} {s : State} {m : MethodId} {args : Array Value} {below : List Frame} {meth : Method} {c : Code} {H : Heap} {locs : List Loc} {cells slots : Nat} {Q : State → Prop} {cc : ByteArray} {pc nL idx : Nat} {own : String} {ls : Array Slot} {rest : List Value} {G : Geo} {x y : Mem} {H0 : Heap} {p0 : Int32} {p1 : Int32} {p2 : Int32} {z : Mem} (hx : p.tables.exec = Jvm.exec) (hb : c.code = cc) (hml : c.maxLocals = nL) (hown : s.vm.findClass own = some m.cls) (htg : ∀ w ∈ wsG, w.before args s = true) (hK : Kt G s) (hW : Wh G x y H) (hS : va_S (gF G) H0 H locs) (h : m_X12_notes p0 p1 p2 y = some z) (hlk : Cond.methodLink own idx yX12_notes ∈ wsG) (hn : ls.size = nL) (hr : (rest.map fun v => v.category).sum ≤ 8) (hR1 : 0 + 1 ≤ R.frames) (hR2 : 8 + (5 + 11) + 0 ≤ R.locals) (hf : cells ≤ R.cells ∧ slots ≤ R.slots) (hdg : decode cc pc = .ok (.invokevirtual idx, 3)) (kk : ∀ (H1 : Heap) (locs1 : List Loc), Wh G x z H1 → va_S (gF G) H0 H1 locs1 → W p l e R s m args below meth c H1 locs1 cells slots Q (F0 m (pc + 3) ls (rest))) : W p l e R s m args below meth c H locs cells slots Q (F0 m pc ls (.int p2 :: .int p1 :: .int p0 :: .ref (gA G 40 0 0) :: rest)) := by
  refine va_callv (va_runV (As := [.int p0, .int p1, .int p2]) (rest := rest) ⟨hx, hb, hml, hown, htg⟩ (c_X12_notes l G x y p0 p1 p2 z h) (cwV 3 htg (gd_V hlk q888 q889 q5 q890) rfl rfl rfl (by decide +kernel) ⟨hR1, hR2⟩) ⟨fun a U g mk q => ⟨q.1, q.2.1.calling, q.2.2⟩, rc_40 hK hW, fun U hU hW9 => ⟨rfl, hK.warm hW9, by rw [hU]; exact hW⟩⟩ rfl rfl hn rfl (lv_room hr) hdg hf) hS (fun _ _ h9 => h9) (fun _ h9 => h9) ?_
  intro u t H1 locs1 ht hvm hw hB hz1 hk1 hS1
  replace hB : Wh G x z t.heap := hB
  rw [ht] at hB
  exact kk H1 locs1 hB hS1
/-! METHOD X12_starts -/
def m_X12_starts_j146 (p0 : Int32) (x2 : Int32) (y : Mem) : Option Mem :=
  bd_ (m_X12_works p0 (0 : Int32) y) fun y31 => bd_ (m_X12_zoneAt x2 (0 : Int32) y31) fun r33 => bd_ (m_X12_notes p0 (0 : Int32) r33 y31) fun y36 => some y36
def m_X12_starts_j122 (p0 : Int32) (x2 : Int32) (y : Mem) : Option Mem :=
  gd_ x2 30 (if (y 128 0 0 x2.toNatClampNeg) < 0 then (m_X12_starts_j146 p0 x2 y) else (lt_ (y 128 0 0 x2.toNatClampNeg) fun z26 => gd_ z26 3 (lt_ (up4 y 106 0 0 z26.toNatClampNeg ((y 106 0 0 z26.toNatClampNeg) + (1 : Int32))) fun y28 => m_X12_starts_j146 p0 x2 y28)))
def m_X12_starts_b34 (p0 : Int32) (k34 : Int32 → Int32 → Mem → Option Mem) (x2 : Int32) (x3 : Int32) (y : Mem) : Option Mem :=
  gd_ p0 3 (if (y 111 0 0 p0.toNatClampNeg) ≤ x3 then (lt_ (up4 y 113 0 0 p0.toNatClampNeg x2) fun y12 => gd_ x2 30 (lt_ (up4 y12 129 0 0 x2.toNatClampNeg (1 : Int32)) fun y14 => lt_ (up4 y14 130 0 0 x2.toNatClampNeg (y14 40 0 0 33)) fun y15 => if (y15 127 0 0 x2.toNatClampNeg) < 0 then (m_X12_starts_j122 p0 x2 y15) else (lt_ (y15 127 0 0 x2.toNatClampNeg) fun z17 => gd_ z17 3 (lt_ (up4 y15 107 0 0 z17.toNatClampNeg ((y15 107 0 0 z17.toNatClampNeg) + (1 : Int32))) fun y19 => m_X12_starts_j122 p0 x2 y19)))) else (gd_ ((((30 : Int32) * p0) + x3) + (1 : Int32)) 90 (gd_ (((30 : Int32) * p0) + x3) 90 (lt_ (up4 y 112 0 0 (((30 : Int32) * p0) + x3).toNatClampNeg (y 112 0 0 ((((30 : Int32) * p0) + x3) + (1 : Int32)).toNatClampNeg)) fun y22 => lt_ (x3 + (1 : Int32)) fun x3_23 => k34 x2 x3_23 y22))))
def m_X12_starts_l34 (p0 : Int32) : Nat → Int32 → Int32 → Mem → Option Mem
  | 0, _, _, _ => none
  | n + 1, x2, x3, y => m_X12_starts_b34 p0 (m_X12_starts_l34 p0 n) x2 x3 y
def m_X12_starts (p0 : Int32) (y : Mem) : Option Mem :=
  gd_ ((30 : Int32) * p0) 90 (lt_ (y 112 0 0 ((30 : Int32) * p0).toNatClampNeg) fun x2_2 => bd2_ (m_X12_isGranted p0 x2_2 (0 : Int32) (1 : Int32) y) fun r4 y5 => if r4 = 0 then (some y5) else (gd_ p0 3 (lt_ (up4 y5 111 0 0 p0.toNatClampNeg ((y5 111 0 0 p0.toNatClampNeg) - (1 : Int32))) fun y8 => lt_ (0 : Int32) fun x3_9 => m_X12_starts_l34 p0 FU x2_2 x3_9 y8)))
abbrev WS_X12_starts : List Cond := .code yX12_starts cX12_starts 4 none :: wsG
abbrev RM_X12_starts : Room := { frames := 6, cells := 0, slots := 0, locals := 140 }
set_option maxHeartbeats 4000000 in
set_option maxRecDepth 100000 in
theorem c_X12_starts (l : Launch) (G : Geo) (x y : Mem) (p0 : Int32) (r : Mem) (h : m_X12_starts p0 y = some r) : Met l yX12_starts WS_X12_starts RM_X12_starts (Pw G x y [.ref (gA G 40 0 0), .int p0]) (Qv G x r) 0 0 (gF G) := by
  refine Met.ofW (cc := cX12_starts) (maxL := 4) (ret := none) (by decide) rfl ?_
  intro p e s m args below meth c s₁ B hml hv
  obtain ⟨rfl, hK, hW⟩ := hv
  have hx := B.exec
  have hb := B.bytes
  have hr := B.returns
  have hts := atoms_spec (ws := WS_X12_starts) B.pre
  have htg : ∀ w ∈ wsG, w.before _ s = true := fun w h => hts w (List.mem_cons_of_mem _ h)
  have hown : s.vm.findClass RX12 = some m.cls := findClass_of_methodNamed B.named
  have hlocks := B.notSynchronized
  have hS : va_S (gF G) s.heap s.heap [] := va_S.rf
  have hl := lv_entry ([.ref (gA G 40 0 0), .int p0]) (n := 4) (Nat.le_of_ble_eq_true rfl)
  rw [lg_entry_eq]
  generalize (lg_sl ([.ref (gA G 40 0 0), .int p0]) ++ List.replicate (4 - (lg_sl ([.ref (gA G 40 0 0), .int p0])).length) Slot.unset).toArray = ls at hl ⊢
  have hl : lv_has ls 4 [(0, .ref (gA G 40 0 0)), (1, .int p0)] := hl
  have hX := h
  unfold m_X12_starts at hX
  have J_146 : ∀ (x2 : Int32) (y : Mem) (H : Heap) (locs : List Loc) (ls : Array Slot), Wh G x y H → va_S (gF G) s.heap H locs → lv_has ls 4 [(0, .ref (gA G 40 0 0)), (1, .int p0), (2, .int x2)] → m_X12_starts_j146 p0 x2 y = some r → W p l e (headSpec WS_X12_starts RM_X12_starts).room s m ([.ref (gA G 40 0 0), .int p0] : List Value).toArray below meth c H locs 0 0 (MQ below (Qv G x r) ([.ref (gA G 40 0 0), .int p0] : List Value).toArray s 0 0 (gF G)) (F0 m 146 ls []) := by
    intro x2 y H locs ls hW hS hl hX
    unfold m_X12_starts_j146 at hX
    refine lv_aload_n hx hb dX12_starts_146 rfl (lv_at hl 0 rfl) ?_
    refine lv_iload_n hx hb dX12_starts_147 rfl (lv_at hl 1 rfl) ?_
    refine lv_iconst (v := (0 : Int32)) hx hb dX12_starts_148 (by decide) ?_
    obtain ⟨y31, h29, hX⟩ := bd_go hX
    refine k_X12_works hx hb hml hown htg hK hW hS h29 q883 hl.1 (Nat.le_of_ble_eq_true rfl) (Nat.le_of_ble_eq_true rfl) (Nat.le_of_ble_eq_true rfl) ⟨Nat.zero_le _, Nat.zero_le _⟩ dX12_starts_149 (fun H locs hW hS => ?_)
    refine lv_aload_n hx hb dX12_starts_152 rfl (lv_at hl 0 rfl) ?_
    refine lv_iload_n hx hb dX12_starts_153 rfl (lv_at hl 1 rfl) ?_
    refine lv_iconst (v := (0 : Int32)) hx hb dX12_starts_154 (by decide) ?_
    refine lv_aload_n hx hb dX12_starts_155 rfl (lv_at hl 0 rfl) ?_
    refine lv_iload_n hx hb dX12_starts_156 rfl (lv_at hl 2 rfl) ?_
    refine lv_iconst (v := (0 : Int32)) hx hb dX12_starts_157 (by decide) ?_
    obtain ⟨r33, h32, hX⟩ := bd_go hX
    refine k_X12_zoneAt hx hb hml hown htg hK hW hS h32 q334 hl.1 (Nat.le_of_ble_eq_true rfl) (Nat.le_of_ble_eq_true rfl) (Nat.le_of_ble_eq_true rfl) ⟨Nat.zero_le _, Nat.zero_le _⟩ dX12_starts_158 (fun H locs hW hS => ?_)
    obtain ⟨y36, h34, hX⟩ := bd_go hX
    refine k_X12_notes hx hb hml hown htg hK hW hS h34 q887 hl.1 (Nat.le_of_ble_eq_true rfl) (Nat.le_of_ble_eq_true rfl) (Nat.le_of_ble_eq_true rfl) ⟨Nat.zero_le _, Nat.zero_le _⟩ dX12_starts_161 (fun H locs hW hS => ?_)
    have hX := Option.some.inj hX
    subst hX
    exact rt_v hx hb hr hlocks hW hS dX12_starts_164
  have J_122 : ∀ (x2 : Int32) (y : Mem) (H : Heap) (locs : List Loc) (ls : Array Slot), Wh G x y H → va_S (gF G) s.heap H locs → lv_has ls 4 [(0, .ref (gA G 40 0 0)), (1, .int p0), (2, .int x2)] → m_X12_starts_j122 p0 x2 y = some r → W p l e (headSpec WS_X12_starts RM_X12_starts).room s m ([.ref (gA G 40 0 0), .int p0] : List Value).toArray below meth c H locs 0 0 (MQ below (Qv G x r) ([.ref (gA G 40 0 0), .int p0] : List Value).toArray s 0 0 (gF G)) (F0 m 122 ls []) := by
    intro x2 y H locs ls hW hS hl hX
    unfold m_X12_starts_j122 at hX
    refine lv_aload_n hx hb dX12_starts_122 rfl (lv_at hl 0 rfl) ?_
    refine gf_40_28 hx hb htg hown hK hW q163 dX12_starts_123 ?_
    refine lv_iload_n hx hb dX12_starts_126 rfl (lv_at hl 2 rfl) ?_
    obtain ⟨g24, hX⟩ := gd_go hX
    refine al_128 hx hb hK hW g24 dX12_starts_127 ?_
    refine lv_if_lt (tgt := 146) hx hb dX12_starts_128 (by decide) (fun c25 => ?_) (fun c25 => ?_)
    · have hX := it_t hX c25
      exact J_146 _ _ _ _ _ hW hS (lv_sub hl [0, 1, 2] rfl) hX
    · have hX := it_f hX c25
      refine lv_aload_n hx hb dX12_starts_131 rfl (lv_at hl 0 rfl) ?_
      refine gf_40_6 hx hb htg hown hK hW q141 dX12_starts_132 ?_
      refine lv_aload_n hx hb dX12_starts_135 rfl (lv_at hl 0 rfl) ?_
      refine gf_40_28 hx hb htg hown hK hW q163 dX12_starts_136 ?_
      refine lv_iload_n hx hb dX12_starts_139 rfl (lv_at hl 2 rfl) ?_
      refine al_128 hx hb hK hW g24 dX12_starts_140 ?_
      refine lv_topi (fun z26 e9 => ?_)
      have hX := lt_go hX e9
      refine lv_dup2_11 hx hb dX12_starts_141 rfl rfl ?_
      obtain ⟨g27, hX⟩ := gd_go hX
      refine al_106 hx hb hK hW g27 dX12_starts_142 ?_
      refine lv_iconst (v := (1 : Int32)) hx hb dX12_starts_143 (by decide) ?_
      refine lv_iadd hx hb dX12_starts_144 ?_
      refine as_106 hx hb hK hW hS g27 dX12_starts_145 (fun H locs hW hS => ?_)
      obtain ⟨y28, e9⟩ : ∃ w : Mem, w = (up4 y 106 0 0 z26.toNatClampNeg ((y 106 0 0 z26.toNatClampNeg) + (1 : Int32))) := ⟨_, rfl⟩
      rw [← e9] at hW
      have hX := lt_go hX e9
      exact J_146 _ _ _ _ _ hW hS (lv_sub hl [0, 1, 2] rfl) hX
  have B_34 : ∀ (k34 : Int32 → Int32 → Mem → Option Mem) (hk34 : ∀ (x2 : Int32) (x3 : Int32) (y : Mem) (H : Heap) (locs : List Loc) (ls : Array Slot), Wh G x y H → va_S (gF G) s.heap H locs → lv_has ls 4 [(0, .ref (gA G 40 0 0)), (1, .int p0), (2, .int x2), (3, .int x3)] → k34 x2 x3 y = some r → W p l e (headSpec WS_X12_starts RM_X12_starts).room s m ([.ref (gA G 40 0 0), .int p0] : List Value).toArray below meth c H locs 0 0 (MQ below (Qv G x r) ([.ref (gA G 40 0 0), .int p0] : List Value).toArray s 0 0 (gF G)) (F0 m 34 ls [])), ∀ (x2 : Int32) (x3 : Int32) (y : Mem) (H : Heap) (locs : List Loc) (ls : Array Slot), Wh G x y H → va_S (gF G) s.heap H locs → lv_has ls 4 [(0, .ref (gA G 40 0 0)), (1, .int p0), (2, .int x2), (3, .int x3)] → m_X12_starts_b34 p0 k34 x2 x3 y = some r → W p l e (headSpec WS_X12_starts RM_X12_starts).room s m ([.ref (gA G 40 0 0), .int p0] : List Value).toArray below meth c H locs 0 0 (MQ below (Qv G x r) ([.ref (gA G 40 0 0), .int p0] : List Value).toArray s 0 0 (gF G)) (F0 m 34 ls []) := by
    intro k34 hk34 x2 x3 y H locs ls hW hS hl hX
    unfold m_X12_starts_b34 at hX
    refine lv_iload_n hx hb dX12_starts_34 rfl (lv_at hl 3 rfl) ?_
    refine lv_aload_n hx hb dX12_starts_35 rfl (lv_at hl 0 rfl) ?_
    refine gf_40_11 hx hb htg hown hK hW q146 dX12_starts_36 ?_
    refine lv_iload_n hx hb dX12_starts_39 rfl (lv_at hl 1 rfl) ?_
    obtain ⟨g10, hX⟩ := gd_go hX
    refine al_111 hx hb hK hW g10 dX12_starts_40 ?_
    refine lv_icmp_ge (tgt := 74) hx hb dX12_starts_41 (by decide) (fun c11 => ?_) (fun c11 => ?_)
    · have hX := it_t hX c11
      refine lv_aload_n hx hb dX12_starts_74 rfl (lv_at hl 0 rfl) ?_
      refine gf_40_13 hx hb htg hown hK hW q148 dX12_starts_75 ?_
      refine lv_iload_n hx hb dX12_starts_78 rfl (lv_at hl 1 rfl) ?_
      refine lv_iload_n hx hb dX12_starts_79 rfl (lv_at hl 2 rfl) ?_
      refine as_113 hx hb hK hW hS g10 dX12_starts_80 (fun H locs hW hS => ?_)
      obtain ⟨y12, e9⟩ : ∃ w : Mem, w = (up4 y 113 0 0 p0.toNatClampNeg x2) := ⟨_, rfl⟩
      rw [← e9] at hW
      have hX := lt_go hX e9
      refine lv_aload_n hx hb dX12_starts_81 rfl (lv_at hl 0 rfl) ?_
      refine gf_40_29 hx hb htg hown hK hW q164 dX12_starts_82 ?_
      refine lv_iload_n hx hb dX12_starts_85 rfl (lv_at hl 2 rfl) ?_
      refine lv_iconst (v := (1 : Int32)) hx hb dX12_starts_86 (by decide) ?_
      obtain ⟨g13, hX⟩ := gd_go hX
      refine as_129 hx hb hK hW hS g13 dX12_starts_87 (fun H locs hW hS => ?_)
      obtain ⟨y14, e9⟩ : ∃ w : Mem, w = (up4 y12 129 0 0 x2.toNatClampNeg (1 : Int32)) := ⟨_, rfl⟩
      rw [← e9] at hW
      have hX := lt_go hX e9
      refine lv_aload_n hx hb dX12_starts_88 rfl (lv_at hl 0 rfl) ?_
      refine gf_40_30 hx hb htg hown hK hW q165 dX12_starts_89 ?_
      refine lv_iload_n hx hb dX12_starts_92 rfl (lv_at hl 2 rfl) ?_
      refine lv_aload_n hx hb dX12_starts_93 rfl (lv_at hl 0 rfl) ?_
      refine gf_40_33 hx hb htg hown hK hW q352 dX12_starts_94 ?_
      refine as_130 hx hb hK hW hS g13 dX12_starts_97 (fun H locs hW hS => ?_)
      obtain ⟨y15, e9⟩ : ∃ w : Mem, w = (up4 y14 130 0 0 x2.toNatClampNeg (y14 40 0 0 33)) := ⟨_, rfl⟩
      rw [← e9] at hW
      have hX := lt_go hX e9
      refine lv_aload_n hx hb dX12_starts_98 rfl (lv_at hl 0 rfl) ?_
      refine gf_40_27 hx hb htg hown hK hW q162 dX12_starts_99 ?_
      refine lv_iload_n hx hb dX12_starts_102 rfl (lv_at hl 2 rfl) ?_
      refine al_127 hx hb hK hW g13 dX12_starts_103 ?_
      refine lv_if_lt (tgt := 122) hx hb dX12_starts_104 (by decide) (fun c16 => ?_) (fun c16 => ?_)
      · have hX := it_t hX c16
        exact J_122 _ _ _ _ _ hW hS (lv_sub hl [0, 1, 2] rfl) hX
      · have hX := it_f hX c16
        refine lv_aload_n hx hb dX12_starts_107 rfl (lv_at hl 0 rfl) ?_
        refine gf_40_7 hx hb htg hown hK hW q142 dX12_starts_108 ?_
        refine lv_aload_n hx hb dX12_starts_111 rfl (lv_at hl 0 rfl) ?_
        refine gf_40_27 hx hb htg hown hK hW q162 dX12_starts_112 ?_
        refine lv_iload_n hx hb dX12_starts_115 rfl (lv_at hl 2 rfl) ?_
        refine al_127 hx hb hK hW g13 dX12_starts_116 ?_
        refine lv_topi (fun z17 e9 => ?_)
        have hX := lt_go hX e9
        refine lv_dup2_11 hx hb dX12_starts_117 rfl rfl ?_
        obtain ⟨g18, hX⟩ := gd_go hX
        refine al_107 hx hb hK hW g18 dX12_starts_118 ?_
        refine lv_iconst (v := (1 : Int32)) hx hb dX12_starts_119 (by decide) ?_
        refine lv_iadd hx hb dX12_starts_120 ?_
        refine as_107 hx hb hK hW hS g18 dX12_starts_121 (fun H locs hW hS => ?_)
        obtain ⟨y19, e9⟩ : ∃ w : Mem, w = (up4 y15 107 0 0 z17.toNatClampNeg ((y15 107 0 0 z17.toNatClampNeg) + (1 : Int32))) := ⟨_, rfl⟩
        rw [← e9] at hW
        have hX := lt_go hX e9
        exact J_122 _ _ _ _ _ hW hS (lv_sub hl [0, 1, 2] rfl) hX
    · have hX := it_f hX c11
      refine lv_aload_n hx hb dX12_starts_44 rfl (lv_at hl 0 rfl) ?_
      refine gf_40_12 hx hb htg hown hK hW q147 dX12_starts_45 ?_
      refine lv_bipush (v := (30 : Int32)) hx hb dX12_starts_48 (by decide) ?_
      refine lv_iload_n hx hb dX12_starts_50 rfl (lv_at hl 1 rfl) ?_
      refine lv_imul hx hb dX12_starts_51 ?_
      refine lv_iload_n hx hb dX12_starts_52 rfl (lv_at hl 3 rfl) ?_
      refine lv_iadd hx hb dX12_starts_53 ?_
      refine lv_aload_n hx hb dX12_starts_54 rfl (lv_at hl 0 rfl) ?_
      refine gf_40_12 hx hb htg hown hK hW q147 dX12_starts_55 ?_
      refine lv_bipush (v := (30 : Int32)) hx hb dX12_starts_58 (by decide) ?_
      refine lv_iload_n hx hb dX12_starts_60 rfl (lv_at hl 1 rfl) ?_
      refine lv_imul hx hb dX12_starts_61 ?_
      refine lv_iload_n hx hb dX12_starts_62 rfl (lv_at hl 3 rfl) ?_
      refine lv_iadd hx hb dX12_starts_63 ?_
      refine lv_iconst (v := (1 : Int32)) hx hb dX12_starts_64 (by decide) ?_
      refine lv_iadd hx hb dX12_starts_65 ?_
      obtain ⟨g20, hX⟩ := gd_go hX
      refine al_112 hx hb hK hW g20 dX12_starts_66 ?_
      obtain ⟨g21, hX⟩ := gd_go hX
      refine as_112 hx hb hK hW hS g21 dX12_starts_67 (fun H locs hW hS => ?_)
      obtain ⟨y22, e9⟩ : ∃ w : Mem, w = (up4 y 112 0 0 (((30 : Int32) * p0) + x3).toNatClampNeg (y 112 0 0 ((((30 : Int32) * p0) + x3) + (1 : Int32)).toNatClampNeg)) := ⟨_, rfl⟩
      rw [← e9] at hW
      have hX := lt_go hX e9
      obtain ⟨x3_23, e9⟩ : ∃ w : Int32, w = (x3 + (1 : Int32)) := ⟨_, rfl⟩
      have hX := lt_go hX e9
      refine lv_iinc (v := x3_23) (lv' := [(3, .int x3_23), (0, .ref (gA G 40 0 0)), (1, .int p0), (2, .int x2)]) hx hb dX12_starts_68 hl (k := 3) rfl (by rw [e9]; rfl) (by decide) rfl (fun ls hl => ?_)
      refine lv_goto (tgt := 34) hx hb dX12_starts_71 (by decide) ?_
      exact hk34 _ _ _ _ _ _ hW hS (lv_sub hl [1, 2, 3, 0] rfl) hX
  have L_34 : ∀ (n : Nat), ∀ (x2 : Int32) (x3 : Int32) (y : Mem) (H : Heap) (locs : List Loc) (ls : Array Slot), Wh G x y H → va_S (gF G) s.heap H locs → lv_has ls 4 [(0, .ref (gA G 40 0 0)), (1, .int p0), (2, .int x2), (3, .int x3)] → m_X12_starts_l34 p0 n x2 x3 y = some r → W p l e (headSpec WS_X12_starts RM_X12_starts).room s m ([.ref (gA G 40 0 0), .int p0] : List Value).toArray below meth c H locs 0 0 (MQ below (Qv G x r) ([.ref (gA G 40 0 0), .int p0] : List Value).toArray s 0 0 (gF G)) (F0 m 34 ls []) := by
    intro n
    induction n with
    | zero => intro x2 x3 y H locs ls hW hS hl hX; exact no_go hX
    | succ n ih => intro x2 x3 y H locs ls hW hS hl hX; exact B_34 _ ih _ _ _ _ _ _ hW hS hl hX
  refine lv_aload_n hx hb dX12_starts_0 rfl (lv_at hl 0 rfl) ?_
  refine gf_40_12 hx hb htg hown hK hW q147 dX12_starts_1 ?_
  refine lv_bipush (v := (30 : Int32)) hx hb dX12_starts_4 (by decide) ?_
  refine lv_iload_n hx hb dX12_starts_6 rfl (lv_at hl 1 rfl) ?_
  refine lv_imul hx hb dX12_starts_7 ?_
  obtain ⟨g1, hX⟩ := gd_go hX
  refine al_112 hx hb hK hW g1 dX12_starts_8 ?_
  refine lv_topi (fun x2_2 e9 => ?_)
  have hX := lt_go hX e9
  refine lv_istore_n (lv' := [(2, .int x2_2), (0, .ref (gA G 40 0 0)), (1, .int p0)]) hx hb dX12_starts_9 rfl hl (by decide) rfl (fun ls hl => ?_)
  refine lv_aload_n hx hb dX12_starts_10 rfl (lv_at hl 1 rfl) ?_
  refine lv_iload_n hx hb dX12_starts_11 rfl (lv_at hl 2 rfl) ?_
  refine lv_iload_n hx hb dX12_starts_12 rfl (lv_at hl 0 rfl) ?_
  refine lv_iconst (v := (0 : Int32)) hx hb dX12_starts_13 (by decide) ?_
  refine lv_iconst (v := (1 : Int32)) hx hb dX12_starts_14 (by decide) ?_
  obtain ⟨r4, y5, h3, hX⟩ := bd2_go hX
  refine k_X12_isGranted hx hb hml hown htg hK hW hS h3 q857 hl.1 (Nat.le_of_ble_eq_true rfl) (Nat.le_of_ble_eq_true rfl) (Nat.le_of_ble_eq_true rfl) ⟨Nat.zero_le _, Nat.zero_le _⟩ dX12_starts_15 (fun H locs hW hS => ?_)
  refine lv_if_ne (tgt := 22) hx hb dX12_starts_18 (by decide) (fun c6 => ?_) (fun c6 => ?_)
  · have hX := it_f hX c6
    refine lv_aload_n hx hb dX12_starts_22 rfl (lv_at hl 1 rfl) ?_
    refine gf_40_11 hx hb htg hown hK hW q146 dX12_starts_23 ?_
    refine lv_iload_n hx hb dX12_starts_26 rfl (lv_at hl 2 rfl) ?_
    refine lv_dup2_11 hx hb dX12_starts_27 rfl rfl ?_
    obtain ⟨g7, hX⟩ := gd_go hX
    refine al_111 hx hb hK hW g7 dX12_starts_28 ?_
    refine lv_iconst (v := (1 : Int32)) hx hb dX12_starts_29 (by decide) ?_
    refine lv_isub hx hb dX12_starts_30 ?_
    refine as_111 hx hb hK hW hS g7 dX12_starts_31 (fun H locs hW hS => ?_)
    obtain ⟨y8, e9⟩ : ∃ w : Mem, w = (up4 y5 111 0 0 p0.toNatClampNeg ((y5 111 0 0 p0.toNatClampNeg) - (1 : Int32))) := ⟨_, rfl⟩
    rw [← e9] at hW
    have hX := lt_go hX e9
    refine lv_iconst (v := (0 : Int32)) hx hb dX12_starts_32 (by decide) ?_
    refine lv_topi (fun x3_9 e9 => ?_)
    have hX := lt_go hX e9
    refine lv_istore_n (lv' := [(3, .int x3_9), (2, .int x2_2), (0, .ref (gA G 40 0 0)), (1, .int p0)]) hx hb dX12_starts_33 rfl hl (by decide) rfl (fun ls hl => ?_)
    exact L_34 FU _ _ _ _ _ _ hW hS (lv_sub hl [2, 3, 1, 0] rfl) hX
  · have hX := it_t hX c6
    have hX := Option.some.inj hX
    subst hX
    exact rt_v hx hb hr hlocks hW hS dX12_starts_21
set_option maxHeartbeats 4000000 in
theorem k_X12_starts {p : Program} {l : Launch} {e : Env} {R : Room} {s : State} {m : MethodId} {args : Array Value} {below : List Frame} {meth : Method} {c : Code} {H : Heap} {locs : List Loc} {cells slots : Nat} {Q : State → Prop} {cc : ByteArray} {pc nL idx : Nat} {own : String} {ls : Array Slot} {rest : List Value} {G : Geo} {x y : Mem} {H0 : Heap} {p0 : Int32} {z : Mem} (hx : p.tables.exec = Jvm.exec) (hb : c.code = cc) (hml : c.maxLocals = nL) (hown : s.vm.findClass own = some m.cls) (htg : ∀ w ∈ wsG, w.before args s = true) (hK : Kt G s) (hW : Wh G x y H) (hS : va_S (gF G) H0 H locs) (h : m_X12_starts p0 y = some z) (hlk : Cond.methodLink own idx yX12_starts ∈ wsG) (hn : ls.size = nL) (hr : (rest.map fun v => v.category).sum ≤ 8) (hR1 : 6 + 1 ≤ R.frames) (hR2 : 8 + (4 + 11) + 140 ≤ R.locals) (hf : cells ≤ R.cells ∧ slots ≤ R.slots) (hdg : decode cc pc = .ok (.invokevirtual idx, 3)) (kk : ∀ (H1 : Heap) (locs1 : List Loc), Wh G x z H1 → va_S (gF G) H0 H1 locs1 → W p l e R s m args below meth c H1 locs1 cells slots Q (F0 m (pc + 3) ls (rest))) : W p l e R s m args below meth c H locs cells slots Q (F0 m pc ls (.int p0 :: .ref (gA G 40 0 0) :: rest)) := by
  refine va_callv (va_runV (As := [.int p0]) (rest := rest) ⟨hx, hb, hml, hown, htg⟩ (c_X12_starts l G x y p0 z h) (cwV 1 htg (gd_V hlk q854 q855 q5 q856) rfl rfl rfl (by decide +kernel) ⟨hR1, hR2⟩) ⟨fun a U g mk q => ⟨q.1, q.2.1.calling, q.2.2⟩, rc_40 hK hW, fun U hU hW9 => ⟨rfl, hK.warm hW9, by rw [hU]; exact hW⟩⟩ rfl rfl hn rfl (lv_room hr) hdg hf) hS (fun _ _ h9 => h9) (fun _ h9 => h9) ?_
  intro u t H1 locs1 ht hvm hw hB hz1 hk1 hS1
  replace hB : Wh G x z t.heap := hB
  rw [ht] at hB
  exact kk H1 locs1 hB hS1
