/-! METHOD X12_takesJob -/
def m_X12_takesJob_j136 (y : Mem) : Option (Int32 × Mem) :=
  some ((1 : Int32), y)
def m_X12_takesJob_j119 (y : Mem) : Option (Int32 × Mem) :=
  bd2_ (m_X12_skips (62 : Int32) y) fun r44 y45 => if r44 = 0 then (m_X12_takesJob_j136 y45) else (bd2_ (m_X12_takesAt (5 : Int32) y45) fun r48 y49 => if r48 = 0 then (some ((0 : Int32), y49)) else (m_X12_takesJob_j136 y49))
def m_X12_takesJob (y : Mem) : Option (Int32 × Mem) :=
  gd_ (y 40 0 0 53) 40 (lt_ (up4 y 149 0 0 (y 40 0 0 53).toNatClampNeg (0 : Int32)) fun y2 => gd_ (((6 : Int32) * (y2 40 0 0 53)) + (4 : Int32)) 240 (lt_ (up4 y2 150 0 0 (((6 : Int32) * (y2 40 0 0 53)) + (4 : Int32)).toNatClampNeg (-1 : Int32)) fun y4 => gd_ (((6 : Int32) * (y4 40 0 0 53)) + (5 : Int32)) 240 (lt_ (up4 y4 150 0 0 (((6 : Int32) * (y4 40 0 0 53)) + (5 : Int32)).toNatClampNeg (-1 : Int32)) fun y6 => bd2_ (m_X12_takesAt (0 : Int32) y6) fun r8 y9 => if r8 = 0 then (some ((0 : Int32), y9)) else (bd2_ (m_X12_skips (58 : Int32) y9) fun r12 y13 => if r12 = 0 then (some ((0 : Int32), y13)) else (bd2_ (m_X12_takesPath y13) fun r16 y17 => if r16 = 0 then (some ((0 : Int32), y17)) else (bd2_ (m_X12_skips (47 : Int32) y17) fun r20 y21 => if r20 = 0 then (some ((0 : Int32), y21)) else (bd2_ (m_X12_takesAt (2 : Int32) y21) fun r24 y25 => if r24 = 0 then (some ((0 : Int32), y25)) else (bd2_ (m_X12_skips (119 : Int32) y25) fun r28 y29 => if r28 = 0 then (some ((0 : Int32), y29)) else (bd2_ (m_X12_takesAt (3 : Int32) y29) fun r32 y33 => if r32 = 0 then (some ((0 : Int32), y33)) else (bd2_ (m_X12_skips (60 : Int32) y33) fun r36 y37 => if r36 = 0 then (m_X12_takesJob_j119 y37) else (bd2_ (m_X12_takesAt (4 : Int32) y37) fun r40 y41 => if r40 = 0 then (some ((0 : Int32), y41)) else (m_X12_takesJob_j119 y41))))))))))))
abbrev WS_X12_takesJob : List Cond := .code yX12_takesJob cX12_takesJob 1 (some .boolean) :: wsG
abbrev RM_X12_takesJob : Room := { frames := 3, cells := 0, slots := 0, locals := 64 }
set_option maxHeartbeats 4000000 in
set_option maxRecDepth 100000 in
theorem c_X12_takesJob (l : Launch) (G : Geo) (x y : Mem) (r : (Int32 × Mem)) (h : m_X12_takesJob y = some r) : Met l yX12_takesJob WS_X12_takesJob RM_X12_takesJob (Pw G x y [.ref (gA G 40 0 0)]) (Qi G x r.2 r.1) 0 0 (gF G) := by
  refine Met.ofW (cc := cX12_takesJob) (maxL := 1) (ret := (some .boolean)) (by decide) rfl ?_
  intro p e s m args below meth c s₁ B hml hv
  obtain ⟨rfl, hK, hW⟩ := hv
  have hx := B.exec
  have hb := B.bytes
  have hr := B.returns
  have hts := atoms_spec (ws := WS_X12_takesJob) B.pre
  have htg : ∀ w ∈ wsG, w.before _ s = true := fun w h => hts w (List.mem_cons_of_mem _ h)
  have hown : s.vm.findClass RX12 = some m.cls := findClass_of_methodNamed B.named
  have hlocks := B.notSynchronized
  have hS : va_S (gF G) s.heap s.heap [] := va_S.rf
  have hl := lv_entry ([.ref (gA G 40 0 0)]) (n := 1) (Nat.le_of_ble_eq_true rfl)
  rw [lg_entry_eq]
  generalize (lg_sl ([.ref (gA G 40 0 0)]) ++ List.replicate (1 - (lg_sl ([.ref (gA G 40 0 0)])).length) Slot.unset).toArray = ls at hl ⊢
  have hl : lv_has ls 1 [(0, .ref (gA G 40 0 0))] := hl
  have hX := h
  unfold m_X12_takesJob at hX
  have J_136 : ∀ (y : Mem) (H : Heap) (locs : List Loc) (ls : Array Slot), Wh G x y H → va_S (gF G) s.heap H locs → lv_has ls 1 [] → m_X12_takesJob_j136 y = some r → W p l e (headSpec WS_X12_takesJob RM_X12_takesJob).room s m ([.ref (gA G 40 0 0)] : List Value).toArray below meth c H locs 0 0 (MQ below (Qi G x r.2 r.1) ([.ref (gA G 40 0 0)] : List Value).toArray s 0 0 (gF G)) (F0 m 136 ls []) := by
    intro y H locs ls hW hS hl hX
    unfold m_X12_takesJob_j136 at hX
    refine lv_iconst (v := (1 : Int32)) hx hb dX12_takesJob_136 (by decide) ?_
    refine lv_goto (tgt := 141) hx hb dX12_takesJob_137 (by decide) ?_
    have hX := Option.some.inj hX
    subst hX
    exact rt_z hx hb hr hlocks hW hS nb1 dX12_takesJob_141
  have J_119 : ∀ (y : Mem) (H : Heap) (locs : List Loc) (ls : Array Slot), Wh G x y H → va_S (gF G) s.heap H locs → lv_has ls 1 [(0, .ref (gA G 40 0 0))] → m_X12_takesJob_j119 y = some r → W p l e (headSpec WS_X12_takesJob RM_X12_takesJob).room s m ([.ref (gA G 40 0 0)] : List Value).toArray below meth c H locs 0 0 (MQ below (Qi G x r.2 r.1) ([.ref (gA G 40 0 0)] : List Value).toArray s 0 0 (gF G)) (F0 m 119 ls []) := by
    intro y H locs ls hW hS hl hX
    unfold m_X12_takesJob_j119 at hX
    refine lv_aload_n hx hb dX12_takesJob_119 rfl (lv_at hl 0 rfl) ?_
    refine lv_bipush (v := (62 : Int32)) hx hb dX12_takesJob_120 (by decide) ?_
    obtain ⟨r44, y45, h43, hX⟩ := bd2_go hX
    refine k_X12_skips hx hb hml hown htg hK hW hS h43 q1186 hl.1 (Nat.le_of_ble_eq_true rfl) (Nat.le_of_ble_eq_true rfl) (Nat.le_of_ble_eq_true rfl) ⟨Nat.zero_le _, Nat.zero_le _⟩ dX12_takesJob_122 (fun H locs hW hS => ?_)
    refine lv_if_eq (tgt := 136) hx hb dX12_takesJob_125 (by decide) (fun c46 => ?_) (fun c46 => ?_)
    · have hX := it_t hX c46
      exact J_136 _ _ _ _ hW hS (lv_sub hl [] rfl) hX
    · have hX := it_f hX c46
      refine lv_aload_n hx hb dX12_takesJob_128 rfl (lv_at hl 0 rfl) ?_
      refine lv_iconst (v := (5 : Int32)) hx hb dX12_takesJob_129 (by decide) ?_
      obtain ⟨r48, y49, h47, hX⟩ := bd2_go hX
      refine k_X12_takesAt hx hb hml hown htg hK hW hS h47 q1194 hl.1 (Nat.le_of_ble_eq_true rfl) (Nat.le_of_ble_eq_true rfl) (Nat.le_of_ble_eq_true rfl) ⟨Nat.zero_le _, Nat.zero_le _⟩ dX12_takesJob_130 (fun H locs hW hS => ?_)
      refine lv_if_eq (tgt := 140) hx hb dX12_takesJob_133 (by decide) (fun c50 => ?_) (fun c50 => ?_)
      · have hX := it_t hX c50
        refine lv_iconst (v := (0 : Int32)) hx hb dX12_takesJob_140 (by decide) ?_
        have hX := Option.some.inj hX
        subst hX
        exact rt_z hx hb hr hlocks hW hS nb0 dX12_takesJob_141
      · have hX := it_f hX c50
        exact J_136 _ _ _ _ hW hS (lv_sub hl [] rfl) hX
  refine lv_aload_n hx hb dX12_takesJob_0 rfl (lv_at hl 0 rfl) ?_
  refine gf_40_49 hx hb htg hown hK hW q173 dX12_takesJob_1 ?_
  refine lv_aload_n hx hb dX12_takesJob_4 rfl (lv_at hl 0 rfl) ?_
  refine gf_40_53 hx hb htg hown hK hW q1177 dX12_takesJob_5 ?_
  refine lv_iconst (v := (0 : Int32)) hx hb dX12_takesJob_8 (by decide) ?_
  obtain ⟨g1, hX⟩ := gd_go hX
  refine as_149 hx hb hK hW hS g1 dX12_takesJob_9 (fun H locs hW hS => ?_)
  obtain ⟨y2, e9⟩ : ∃ w : Mem, w = (up4 y 149 0 0 (y 40 0 0 53).toNatClampNeg (0 : Int32)) := ⟨_, rfl⟩
  rw [← e9] at hW
  have hX := lt_go hX e9
  refine lv_aload_n hx hb dX12_takesJob_10 rfl (lv_at hl 0 rfl) ?_
  refine gf_40_50 hx hb htg hown hK hW q174 dX12_takesJob_11 ?_
  refine lv_bipush (v := (6 : Int32)) hx hb dX12_takesJob_14 (by decide) ?_
  refine lv_aload_n hx hb dX12_takesJob_16 rfl (lv_at hl 0 rfl) ?_
  refine gf_40_53 hx hb htg hown hK hW q1177 dX12_takesJob_17 ?_
  refine lv_imul hx hb dX12_takesJob_20 ?_
  refine lv_iconst (v := (4 : Int32)) hx hb dX12_takesJob_21 (by decide) ?_
  refine lv_iadd hx hb dX12_takesJob_22 ?_
  refine lv_iconst (v := (-1 : Int32)) hx hb dX12_takesJob_23 (by decide) ?_
  obtain ⟨g3, hX⟩ := gd_go hX
  refine as_150 hx hb hK hW hS g3 dX12_takesJob_24 (fun H locs hW hS => ?_)
  obtain ⟨y4, e9⟩ : ∃ w : Mem, w = (up4 y2 150 0 0 (((6 : Int32) * (y2 40 0 0 53)) + (4 : Int32)).toNatClampNeg (-1 : Int32)) := ⟨_, rfl⟩
  rw [← e9] at hW
  have hX := lt_go hX e9
  refine lv_aload_n hx hb dX12_takesJob_25 rfl (lv_at hl 0 rfl) ?_
  refine gf_40_50 hx hb htg hown hK hW q174 dX12_takesJob_26 ?_
  refine lv_bipush (v := (6 : Int32)) hx hb dX12_takesJob_29 (by decide) ?_
  refine lv_aload_n hx hb dX12_takesJob_31 rfl (lv_at hl 0 rfl) ?_
  refine gf_40_53 hx hb htg hown hK hW q1177 dX12_takesJob_32 ?_
  refine lv_imul hx hb dX12_takesJob_35 ?_
  refine lv_iconst (v := (5 : Int32)) hx hb dX12_takesJob_36 (by decide) ?_
  refine lv_iadd hx hb dX12_takesJob_37 ?_
  refine lv_iconst (v := (-1 : Int32)) hx hb dX12_takesJob_38 (by decide) ?_
  obtain ⟨g5, hX⟩ := gd_go hX
  refine as_150 hx hb hK hW hS g5 dX12_takesJob_39 (fun H locs hW hS => ?_)
  obtain ⟨y6, e9⟩ : ∃ w : Mem, w = (up4 y4 150 0 0 (((6 : Int32) * (y4 40 0 0 53)) + (5 : Int32)).toNatClampNeg (-1 : Int32)) := ⟨_, rfl⟩
  rw [← e9] at hW
  have hX := lt_go hX e9
  refine lv_aload_n hx hb dX12_takesJob_40 rfl (lv_at hl 0 rfl) ?_
  refine lv_iconst (v := (0 : Int32)) hx hb dX12_takesJob_41 (by decide) ?_
  obtain ⟨r8, y9, h7, hX⟩ := bd2_go hX
  refine k_X12_takesAt hx hb hml hown htg hK hW hS h7 q1194 hl.1 (Nat.le_of_ble_eq_true rfl) (Nat.le_of_ble_eq_true rfl) (Nat.le_of_ble_eq_true rfl) ⟨Nat.zero_le _, Nat.zero_le _⟩ dX12_takesJob_42 (fun H locs hW hS => ?_)
  refine lv_if_eq (tgt := 98) hx hb dX12_takesJob_45 (by decide) (fun c10 => ?_) (fun c10 => ?_)
  · have hX := it_t hX c10
    refine lv_iconst (v := (0 : Int32)) hx hb dX12_takesJob_98 (by decide) ?_
    have hX := Option.some.inj hX
    subst hX
    exact rt_z hx hb hr hlocks hW hS nb0 dX12_takesJob_99
  · have hX := it_f hX c10
    refine lv_aload_n hx hb dX12_takesJob_48 rfl (lv_at hl 0 rfl) ?_
    refine lv_bipush (v := (58 : Int32)) hx hb dX12_takesJob_49 (by decide) ?_
    obtain ⟨r12, y13, h11, hX⟩ := bd2_go hX
    refine k_X12_skips hx hb hml hown htg hK hW hS h11 q1186 hl.1 (Nat.le_of_ble_eq_true rfl) (Nat.le_of_ble_eq_true rfl) (Nat.le_of_ble_eq_true rfl) ⟨Nat.zero_le _, Nat.zero_le _⟩ dX12_takesJob_51 (fun H locs hW hS => ?_)
    refine lv_if_eq (tgt := 98) hx hb dX12_takesJob_54 (by decide) (fun c14 => ?_) (fun c14 => ?_)
    · have hX := it_t hX c14
      refine lv_iconst (v := (0 : Int32)) hx hb dX12_takesJob_98 (by decide) ?_
      have hX := Option.some.inj hX
      subst hX
      exact rt_z hx hb hr hlocks hW hS nb0 dX12_takesJob_99
    · have hX := it_f hX c14
      refine lv_aload_n hx hb dX12_takesJob_57 rfl (lv_at hl 0 rfl) ?_
      obtain ⟨r16, y17, h15, hX⟩ := bd2_go hX
      refine k_X12_takesPath hx hb hml hown htg hK hW hS h15 q1203 hl.1 (Nat.le_of_ble_eq_true rfl) (Nat.le_of_ble_eq_true rfl) (Nat.le_of_ble_eq_true rfl) ⟨Nat.zero_le _, Nat.zero_le _⟩ dX12_takesJob_58 (fun H locs hW hS => ?_)
      refine lv_if_eq (tgt := 98) hx hb dX12_takesJob_61 (by decide) (fun c18 => ?_) (fun c18 => ?_)
      · have hX := it_t hX c18
        refine lv_iconst (v := (0 : Int32)) hx hb dX12_takesJob_98 (by decide) ?_
        have hX := Option.some.inj hX
        subst hX
        exact rt_z hx hb hr hlocks hW hS nb0 dX12_takesJob_99
      · have hX := it_f hX c18
        refine lv_aload_n hx hb dX12_takesJob_64 rfl (lv_at hl 0 rfl) ?_
        refine lv_bipush (v := (47 : Int32)) hx hb dX12_takesJob_65 (by decide) ?_
        obtain ⟨r20, y21, h19, hX⟩ := bd2_go hX
        refine k_X12_skips hx hb hml hown htg hK hW hS h19 q1186 hl.1 (Nat.le_of_ble_eq_true rfl) (Nat.le_of_ble_eq_true rfl) (Nat.le_of_ble_eq_true rfl) ⟨Nat.zero_le _, Nat.zero_le _⟩ dX12_takesJob_67 (fun H locs hW hS => ?_)
        refine lv_if_eq (tgt := 98) hx hb dX12_takesJob_70 (by decide) (fun c22 => ?_) (fun c22 => ?_)
        · have hX := it_t hX c22
          refine lv_iconst (v := (0 : Int32)) hx hb dX12_takesJob_98 (by decide) ?_
          have hX := Option.some.inj hX
          subst hX
          exact rt_z hx hb hr hlocks hW hS nb0 dX12_takesJob_99
        · have hX := it_f hX c22
          refine lv_aload_n hx hb dX12_takesJob_73 rfl (lv_at hl 0 rfl) ?_
          refine lv_iconst (v := (2 : Int32)) hx hb dX12_takesJob_74 (by decide) ?_
          obtain ⟨r24, y25, h23, hX⟩ := bd2_go hX
          refine k_X12_takesAt hx hb hml hown htg hK hW hS h23 q1194 hl.1 (Nat.le_of_ble_eq_true rfl) (Nat.le_of_ble_eq_true rfl) (Nat.le_of_ble_eq_true rfl) ⟨Nat.zero_le _, Nat.zero_le _⟩ dX12_takesJob_75 (fun H locs hW hS => ?_)
          refine lv_if_eq (tgt := 98) hx hb dX12_takesJob_78 (by decide) (fun c26 => ?_) (fun c26 => ?_)
          · have hX := it_t hX c26
            refine lv_iconst (v := (0 : Int32)) hx hb dX12_takesJob_98 (by decide) ?_
            have hX := Option.some.inj hX
            subst hX
            exact rt_z hx hb hr hlocks hW hS nb0 dX12_takesJob_99
          · have hX := it_f hX c26
            refine lv_aload_n hx hb dX12_takesJob_81 rfl (lv_at hl 0 rfl) ?_
            refine lv_bipush (v := (119 : Int32)) hx hb dX12_takesJob_82 (by decide) ?_
            obtain ⟨r28, y29, h27, hX⟩ := bd2_go hX
            refine k_X12_skips hx hb hml hown htg hK hW hS h27 q1186 hl.1 (Nat.le_of_ble_eq_true rfl) (Nat.le_of_ble_eq_true rfl) (Nat.le_of_ble_eq_true rfl) ⟨Nat.zero_le _, Nat.zero_le _⟩ dX12_takesJob_84 (fun H locs hW hS => ?_)
            refine lv_if_eq (tgt := 98) hx hb dX12_takesJob_87 (by decide) (fun c30 => ?_) (fun c30 => ?_)
            · have hX := it_t hX c30
              refine lv_iconst (v := (0 : Int32)) hx hb dX12_takesJob_98 (by decide) ?_
              have hX := Option.some.inj hX
              subst hX
              exact rt_z hx hb hr hlocks hW hS nb0 dX12_takesJob_99
            · have hX := it_f hX c30
              refine lv_aload_n hx hb dX12_takesJob_90 rfl (lv_at hl 0 rfl) ?_
              refine lv_iconst (v := (3 : Int32)) hx hb dX12_takesJob_91 (by decide) ?_
              obtain ⟨r32, y33, h31, hX⟩ := bd2_go hX
              refine k_X12_takesAt hx hb hml hown htg hK hW hS h31 q1194 hl.1 (Nat.le_of_ble_eq_true rfl) (Nat.le_of_ble_eq_true rfl) (Nat.le_of_ble_eq_true rfl) ⟨Nat.zero_le _, Nat.zero_le _⟩ dX12_takesJob_92 (fun H locs hW hS => ?_)
              refine lv_if_ne (tgt := 100) hx hb dX12_takesJob_95 (by decide) (fun c34 => ?_) (fun c34 => ?_)
              · have hX := it_f hX c34
                refine lv_aload_n hx hb dX12_takesJob_100 rfl (lv_at hl 0 rfl) ?_
                refine lv_bipush (v := (60 : Int32)) hx hb dX12_takesJob_101 (by decide) ?_
                obtain ⟨r36, y37, h35, hX⟩ := bd2_go hX
                refine k_X12_skips hx hb hml hown htg hK hW hS h35 q1186 hl.1 (Nat.le_of_ble_eq_true rfl) (Nat.le_of_ble_eq_true rfl) (Nat.le_of_ble_eq_true rfl) ⟨Nat.zero_le _, Nat.zero_le _⟩ dX12_takesJob_103 (fun H locs hW hS => ?_)
                refine lv_if_eq (tgt := 119) hx hb dX12_takesJob_106 (by decide) (fun c38 => ?_) (fun c38 => ?_)
                · have hX := it_t hX c38
                  exact J_119 _ _ _ _ hW hS (lv_sub hl [0] rfl) hX
                · have hX := it_f hX c38
                  refine lv_aload_n hx hb dX12_takesJob_109 rfl (lv_at hl 0 rfl) ?_
                  refine lv_iconst (v := (4 : Int32)) hx hb dX12_takesJob_110 (by decide) ?_
                  obtain ⟨r40, y41, h39, hX⟩ := bd2_go hX
                  refine k_X12_takesAt hx hb hml hown htg hK hW hS h39 q1194 hl.1 (Nat.le_of_ble_eq_true rfl) (Nat.le_of_ble_eq_true rfl) (Nat.le_of_ble_eq_true rfl) ⟨Nat.zero_le _, Nat.zero_le _⟩ dX12_takesJob_111 (fun H locs hW hS => ?_)
                  refine lv_if_ne (tgt := 119) hx hb dX12_takesJob_114 (by decide) (fun c42 => ?_) (fun c42 => ?_)
                  · have hX := it_f hX c42
                    exact J_119 _ _ _ _ hW hS (lv_sub hl [0] rfl) hX
                  · have hX := it_t hX c42
                    refine lv_iconst (v := (0 : Int32)) hx hb dX12_takesJob_117 (by decide) ?_
                    have hX := Option.some.inj hX
                    subst hX
                    exact rt_z hx hb hr hlocks hW hS nb0 dX12_takesJob_118
              · have hX := it_t hX c34
                refine lv_iconst (v := (0 : Int32)) hx hb dX12_takesJob_98 (by decide) ?_
                have hX := Option.some.inj hX
                subst hX
                exact rt_z hx hb hr hlocks hW hS nb0 dX12_takesJob_99
set_option maxHeartbeats 4000000 in
theorem k_X12_takesJob {p : Program} {l : Launch} {e : Env} {R : Room} {s : State} {m : MethodId} {args : Array Value} {below : List Frame} {meth : Method} {c : Code} {H : Heap} {locs : List Loc} {cells slots : Nat} {Q : State → Prop} {cc : ByteArray} {pc nL idx : Nat} {own : String} {ls : Array Slot} {rest : List Value} {G : Geo} {x y : Mem} {H0 : Heap} {v : Int32} {z : Mem} (hx : p.tables.exec = Jvm.exec) (hb : c.code = cc) (hml : c.maxLocals = nL) (hown : s.vm.findClass own = some m.cls) (htg : ∀ w ∈ wsG, w.before args s = true) (hK : Kt G s) (hW : Wh G x y H) (hS : va_S (gF G) H0 H locs) (h : m_X12_takesJob y = some (v, z)) (hlk : Cond.methodLink own idx yX12_takesJob ∈ wsG) (hn : ls.size = nL) (hr : (rest.map fun v => v.category).sum ≤ 8) (hR1 : 3 + 1 ≤ R.frames) (hR2 : 8 + (1 + 11) + 64 ≤ R.locals) (hf : cells ≤ R.cells ∧ slots ≤ R.slots) (hdg : decode cc pc = .ok (.invokevirtual idx, 3)) (kk : ∀ (H1 : Heap) (locs1 : List Loc), Wh G x z H1 → va_S (gF G) H0 H1 locs1 → W p l e R s m args below meth c H1 locs1 cells slots Q (F0 m (pc + 3) ls (.int v :: rest))) : W p l e R s m args below meth c H locs cells slots Q (F0 m pc ls (.ref (gA G 40 0 0) :: rest)) := by
  refine va_calli (va_runV (As := []) (rest := rest) ⟨hx, hb, hml, hown, htg⟩ (c_X12_takesJob l G x y (v, z) h) (cwV 0 htg (gd_V hlk q1191 q1192 q5 q1193) rfl rfl rfl (by decide +kernel) ⟨hR1, hR2⟩) ⟨fun a U g mk q => ⟨q.1, q.2.1.calling, q.2.2⟩, rc_40 hK hW, fun U hU hW9 => ⟨rfl, hK.warm hW9, by rw [hU]; exact hW⟩⟩ rfl rfl hn rfl (lv_room hr) hdg hf) hS (fun _ _ h9 => h9) (fun _ h9 => h9) ?_
  intro r9 u t H1 locs1 ht hvm hw hB hz1 hk1 hS1
  replace hB : Wh G x z t.heap := hB
  rw [ht] at hB
  replace hw : r9 = v := hw
  subst hw
  exact kk H1 locs1 hB hS1
/-! METHOD X12_takesTicks -/
def m_X12_takesTicks (y : Mem) : Option (Int32 × Mem) :=
  gd_ (y 40 0 0 53) 40 (lt_ (up4 y 149 0 0 (y 40 0 0 53).toNatClampNeg (1 : Int32)) fun y2 => bd2_ (m_X12_takesAt (0 : Int32) y2) fun r4 y5 => if r4 = 0 then (some ((0 : Int32), y5)) else (bd2_ (m_X12_takes y5) fun r8 y9 => if r8 = 0 then (some ((1 : Int32), y9)) else (gd_ ((6 : Int32) * (y9 40 0 0 53)) 240 (lt_ (up4 y9 150 0 0 ((6 : Int32) * (y9 40 0 0 53)).toNatClampNeg (((10 : Int32) * (y9 150 0 0 ((6 : Int32) * (y9 40 0 0 53)).toNatClampNeg)) + (y9 40 0 0 54))) fun y12 => some ((1 : Int32), y12)))))
abbrev WS_X12_takesTicks : List Cond := .code yX12_takesTicks cX12_takesTicks 1 (some .boolean) :: wsG
abbrev RM_X12_takesTicks : Room := { frames := 3, cells := 0, slots := 0, locals := 63 }
set_option maxHeartbeats 4000000 in
set_option maxRecDepth 100000 in
theorem c_X12_takesTicks (l : Launch) (G : Geo) (x y : Mem) (r : (Int32 × Mem)) (h : m_X12_takesTicks y = some r) : Met l yX12_takesTicks WS_X12_takesTicks RM_X12_takesTicks (Pw G x y [.ref (gA G 40 0 0)]) (Qi G x r.2 r.1) 0 0 (gF G) := by
  refine Met.ofW (cc := cX12_takesTicks) (maxL := 1) (ret := (some .boolean)) (by decide) rfl ?_
  intro p e s m args below meth c s₁ B hml hv
  obtain ⟨rfl, hK, hW⟩ := hv
  have hx := B.exec
  have hb := B.bytes
  have hr := B.returns
  have hts := atoms_spec (ws := WS_X12_takesTicks) B.pre
  have htg : ∀ w ∈ wsG, w.before _ s = true := fun w h => hts w (List.mem_cons_of_mem _ h)
  have hown : s.vm.findClass RX12 = some m.cls := findClass_of_methodNamed B.named
  have hlocks := B.notSynchronized
  have hS : va_S (gF G) s.heap s.heap [] := va_S.rf
  have hl := lv_entry ([.ref (gA G 40 0 0)]) (n := 1) (Nat.le_of_ble_eq_true rfl)
  rw [lg_entry_eq]
  generalize (lg_sl ([.ref (gA G 40 0 0)]) ++ List.replicate (1 - (lg_sl ([.ref (gA G 40 0 0)])).length) Slot.unset).toArray = ls at hl ⊢
  have hl : lv_has ls 1 [(0, .ref (gA G 40 0 0))] := hl
  have hX := h
  unfold m_X12_takesTicks at hX
  refine lv_aload_n hx hb dX12_takesTicks_0 rfl (lv_at hl 0 rfl) ?_
  refine gf_40_49 hx hb htg hown hK hW q173 dX12_takesTicks_1 ?_
  refine lv_aload_n hx hb dX12_takesTicks_4 rfl (lv_at hl 0 rfl) ?_
  refine gf_40_53 hx hb htg hown hK hW q1177 dX12_takesTicks_5 ?_
  refine lv_iconst (v := (1 : Int32)) hx hb dX12_takesTicks_8 (by decide) ?_
  obtain ⟨g1, hX⟩ := gd_go hX
  refine as_149 hx hb hK hW hS g1 dX12_takesTicks_9 (fun H locs hW hS => ?_)
  obtain ⟨y2, e9⟩ : ∃ w : Mem, w = (up4 y 149 0 0 (y 40 0 0 53).toNatClampNeg (1 : Int32)) := ⟨_, rfl⟩
  rw [← e9] at hW
  have hX := lt_go hX e9
  refine lv_aload_n hx hb dX12_takesTicks_10 rfl (lv_at hl 0 rfl) ?_
  refine lv_iconst (v := (0 : Int32)) hx hb dX12_takesTicks_11 (by decide) ?_
  obtain ⟨r4, y5, h3, hX⟩ := bd2_go hX
  refine k_X12_takesAt hx hb hml hown htg hK hW hS h3 q1194 hl.1 (Nat.le_of_ble_eq_true rfl) (Nat.le_of_ble_eq_true rfl) (Nat.le_of_ble_eq_true rfl) ⟨Nat.zero_le _, Nat.zero_le _⟩ dX12_takesTicks_12 (fun H locs hW hS => ?_)
  refine lv_if_ne (tgt := 20) hx hb dX12_takesTicks_15 (by decide) (fun c6 => ?_) (fun c6 => ?_)
  · have hX := it_f hX c6
    refine lv_aload_n hx hb dX12_takesTicks_20 rfl (lv_at hl 0 rfl) ?_
    obtain ⟨r8, y9, h7, hX⟩ := bd2_go hX
    refine k_X12_takes hx hb hml hown htg hK hW hS h7 q1199 hl.1 (Nat.le_of_ble_eq_true rfl) (Nat.le_of_ble_eq_true rfl) (Nat.le_of_ble_eq_true rfl) ⟨Nat.zero_le _, Nat.zero_le _⟩ dX12_takesTicks_21 (fun H locs hW hS => ?_)
    refine lv_if_eq (tgt := 59) hx hb dX12_takesTicks_24 (by decide) (fun c10 => ?_) (fun c10 => ?_)
    · have hX := it_t hX c10
      refine lv_iconst (v := (1 : Int32)) hx hb dX12_takesTicks_59 (by decide) ?_
      have hX := Option.some.inj hX
      subst hX
      exact rt_z hx hb hr hlocks hW hS nb1 dX12_takesTicks_60
    · have hX := it_f hX c10
      refine lv_aload_n hx hb dX12_takesTicks_27 rfl (lv_at hl 0 rfl) ?_
      refine gf_40_50 hx hb htg hown hK hW q174 dX12_takesTicks_28 ?_
      refine lv_bipush (v := (6 : Int32)) hx hb dX12_takesTicks_31 (by decide) ?_
      refine lv_aload_n hx hb dX12_takesTicks_33 rfl (lv_at hl 0 rfl) ?_
      refine gf_40_53 hx hb htg hown hK hW q1177 dX12_takesTicks_34 ?_
      refine lv_imul hx hb dX12_takesTicks_37 ?_
      refine lv_bipush (v := (10 : Int32)) hx hb dX12_takesTicks_38 (by decide) ?_
      refine lv_aload_n hx hb dX12_takesTicks_40 rfl (lv_at hl 0 rfl) ?_
      refine gf_40_50 hx hb htg hown hK hW q174 dX12_takesTicks_41 ?_
      refine lv_bipush (v := (6 : Int32)) hx hb dX12_takesTicks_44 (by decide) ?_
      refine lv_aload_n hx hb dX12_takesTicks_46 rfl (lv_at hl 0 rfl) ?_
      refine gf_40_53 hx hb htg hown hK hW q1177 dX12_takesTicks_47 ?_
      refine lv_imul hx hb dX12_takesTicks_50 ?_
      obtain ⟨g11, hX⟩ := gd_go hX
      refine al_150 hx hb hK hW g11 dX12_takesTicks_51 ?_
      refine lv_imul hx hb dX12_takesTicks_52 ?_
      refine lv_aload_n hx hb dX12_takesTicks_53 rfl (lv_at hl 0 rfl) ?_
      refine gf_40_54 hx hb htg hown hK hW q1198 dX12_takesTicks_54 ?_
      refine lv_iadd hx hb dX12_takesTicks_57 ?_
      refine as_150 hx hb hK hW hS g11 dX12_takesTicks_58 (fun H locs hW hS => ?_)
      obtain ⟨y12, e9⟩ : ∃ w : Mem, w = (up4 y9 150 0 0 ((6 : Int32) * (y9 40 0 0 53)).toNatClampNeg (((10 : Int32) * (y9 150 0 0 ((6 : Int32) * (y9 40 0 0 53)).toNatClampNeg)) + (y9 40 0 0 54))) := ⟨_, rfl⟩
      rw [← e9] at hW
      have hX := lt_go hX e9
      refine lv_iconst (v := (1 : Int32)) hx hb dX12_takesTicks_59 (by decide) ?_
      have hX := Option.some.inj hX
      subst hX
      exact rt_z hx hb hr hlocks hW hS nb1 dX12_takesTicks_60
  · have hX := it_t hX c6
    refine lv_iconst (v := (0 : Int32)) hx hb dX12_takesTicks_18 (by decide) ?_
    have hX := Option.some.inj hX
    subst hX
    exact rt_z hx hb hr hlocks hW hS nb0 dX12_takesTicks_19
set_option maxHeartbeats 4000000 in
theorem k_X12_takesTicks {p : Program} {l : Launch} {e : Env} {R : Room} {s : State} {m : MethodId} {args : Array Value} {below : List Frame} {meth : Method} {c : Code} {H : Heap} {locs : List Loc} {cells slots : Nat} {Q : State → Prop} {cc : ByteArray} {pc nL idx : Nat} {own : String} {ls : Array Slot} {rest : List Value} {G : Geo} {x y : Mem} {H0 : Heap} {v : Int32} {z : Mem} (hx : p.tables.exec = Jvm.exec) (hb : c.code = cc) (hml : c.maxLocals = nL) (hown : s.vm.findClass own = some m.cls) (htg : ∀ w ∈ wsG, w.before args s = true) (hK : Kt G s) (hW : Wh G x y H) (hS : va_S (gF G) H0 H locs) (h : m_X12_takesTicks y = some (v, z)) (hlk : Cond.methodLink own idx yX12_takesTicks ∈ wsG) (hn : ls.size = nL) (hr : (rest.map fun v => v.category).sum ≤ 8) (hR1 : 3 + 1 ≤ R.frames) (hR2 : 8 + (1 + 11) + 63 ≤ R.locals) (hf : cells ≤ R.cells ∧ slots ≤ R.slots) (hdg : decode cc pc = .ok (.invokevirtual idx, 3)) (kk : ∀ (H1 : Heap) (locs1 : List Loc), Wh G x z H1 → va_S (gF G) H0 H1 locs1 → W p l e R s m args below meth c H1 locs1 cells slots Q (F0 m (pc + 3) ls (.int v :: rest))) : W p l e R s m args below meth c H locs cells slots Q (F0 m pc ls (.ref (gA G 40 0 0) :: rest)) := by
  refine va_calli (va_runV (As := []) (rest := rest) ⟨hx, hb, hml, hown, htg⟩ (c_X12_takesTicks l G x y (v, z) h) (cwV 0 htg (gd_V hlk q1208 q1209 q5 q1210) rfl rfl rfl (by decide +kernel) ⟨hR1, hR2⟩) ⟨fun a U g mk q => ⟨q.1, q.2.1.calling, q.2.2⟩, rc_40 hK hW, fun U hU hW9 => ⟨rfl, hK.warm hW9, by rw [hU]; exact hW⟩⟩ rfl rfl hn rfl (lv_room hr) hdg hf) hS (fun _ _ h9 => h9) (fun _ h9 => h9) ?_
  intro r9 u t H1 locs1 ht hvm hw hB hz1 hk1 hS1
  replace hB : Wh G x z t.heap := hB
  rw [ht] at hB
  replace hw : r9 = v := hw
  subst hw
  exact kk H1 locs1 hB hS1
/-! METHOD X12_takesCommand -/
def m_X12_takesCommand (y : Mem) : Option (Int32 × Mem) :=
  bd2_ (m_X12_skips (106 : Int32) y) fun r2 y3 => if r2 = 0 then (bd2_ (m_X12_skips (116 : Int32) y3) fun r6 y7 => if r6 = 0 then (gd_ (y7 40 0 0 53) 40 (lt_ (up4 y7 149 0 0 (y7 40 0 0 53).toNatClampNeg (2 : Int32)) fun y10 => bd2_ (m_X12_skips (105 : Int32) y10) fun r12 y13 => if r12 = 0 then (some ((0 : Int32), y13)) else (bd2_ (m_X12_takesAt (0 : Int32) y13) fun r16 y17 => if r16 = 0 then (some ((0 : Int32), y17)) else (bd2_ (m_X12_takesAt (1 : Int32) y17) fun r20 y21 => if r20 = 0 then (some ((0 : Int32), y21)) else (some ((1 : Int32), y21)))))) else (bd2_ (m_X12_takesTicks y7) fun r24 y25 => gb_ r24 (some (r24, y25)))) else (bd2_ (m_X12_takesJob y3) fun r27 y28 => gb_ r27 (some (r27, y28)))
abbrev WS_X12_takesCommand : List Cond := .code yX12_takesCommand cX12_takesCommand 1 (some .boolean) :: wsG
abbrev RM_X12_takesCommand : Room := { frames := 4, cells := 0, slots := 0, locals := 84 }
set_option maxHeartbeats 4000000 in
set_option maxRecDepth 100000 in
theorem c_X12_takesCommand (l : Launch) (G : Geo) (x y : Mem) (r : (Int32 × Mem)) (h : m_X12_takesCommand y = some r) : Met l yX12_takesCommand WS_X12_takesCommand RM_X12_takesCommand (Pw G x y [.ref (gA G 40 0 0)]) (Qi G x r.2 r.1) 0 0 (gF G) := by
  refine Met.ofW (cc := cX12_takesCommand) (maxL := 1) (ret := (some .boolean)) (by decide) rfl ?_
  intro p e s m args below meth c s₁ B hml hv
  obtain ⟨rfl, hK, hW⟩ := hv
  have hx := B.exec
  have hb := B.bytes
  have hr := B.returns
  have hts := atoms_spec (ws := WS_X12_takesCommand) B.pre
  have htg : ∀ w ∈ wsG, w.before _ s = true := fun w h => hts w (List.mem_cons_of_mem _ h)
  have hown : s.vm.findClass RX12 = some m.cls := findClass_of_methodNamed B.named
  have hlocks := B.notSynchronized
  have hS : va_S (gF G) s.heap s.heap [] := va_S.rf
  have hl := lv_entry ([.ref (gA G 40 0 0)]) (n := 1) (Nat.le_of_ble_eq_true rfl)
  rw [lg_entry_eq]
  generalize (lg_sl ([.ref (gA G 40 0 0)]) ++ List.replicate (1 - (lg_sl ([.ref (gA G 40 0 0)])).length) Slot.unset).toArray = ls at hl ⊢
  have hl : lv_has ls 1 [(0, .ref (gA G 40 0 0))] := hl
  have hX := h
  unfold m_X12_takesCommand at hX
  refine lv_aload_n hx hb dX12_takesCommand_0 rfl (lv_at hl 0 rfl) ?_
  refine lv_bipush (v := (106 : Int32)) hx hb dX12_takesCommand_1 (by decide) ?_
  obtain ⟨r2, y3, h1, hX⟩ := bd2_go hX
  refine k_X12_skips hx hb hml hown htg hK hW hS h1 q1186 hl.1 (Nat.le_of_ble_eq_true rfl) (Nat.le_of_ble_eq_true rfl) (Nat.le_of_ble_eq_true rfl) ⟨Nat.zero_le _, Nat.zero_le _⟩ dX12_takesCommand_3 (fun H locs hW hS => ?_)
  refine lv_if_eq (tgt := 14) hx hb dX12_takesCommand_6 (by decide) (fun c4 => ?_) (fun c4 => ?_)
  · have hX := it_t hX c4
    refine lv_aload_n hx hb dX12_takesCommand_14 rfl (lv_at hl 0 rfl) ?_
    refine lv_bipush (v := (116 : Int32)) hx hb dX12_takesCommand_15 (by decide) ?_
    obtain ⟨r6, y7, h5, hX⟩ := bd2_go hX
    refine k_X12_skips hx hb hml hown htg hK hW hS h5 q1186 hl.1 (Nat.le_of_ble_eq_true rfl) (Nat.le_of_ble_eq_true rfl) (Nat.le_of_ble_eq_true rfl) ⟨Nat.zero_le _, Nat.zero_le _⟩ dX12_takesCommand_17 (fun H locs hW hS => ?_)
    refine lv_if_eq (tgt := 28) hx hb dX12_takesCommand_20 (by decide) (fun c8 => ?_) (fun c8 => ?_)
    · have hX := it_t hX c8
      refine lv_aload_n hx hb dX12_takesCommand_28 rfl (lv_at hl 0 rfl) ?_
      refine gf_40_49 hx hb htg hown hK hW q173 dX12_takesCommand_29 ?_
      refine lv_aload_n hx hb dX12_takesCommand_32 rfl (lv_at hl 0 rfl) ?_
      refine gf_40_53 hx hb htg hown hK hW q1177 dX12_takesCommand_33 ?_
      refine lv_iconst (v := (2 : Int32)) hx hb dX12_takesCommand_36 (by decide) ?_
      obtain ⟨g9, hX⟩ := gd_go hX
      refine as_149 hx hb hK hW hS g9 dX12_takesCommand_37 (fun H locs hW hS => ?_)
      obtain ⟨y10, e9⟩ : ∃ w : Mem, w = (up4 y7 149 0 0 (y7 40 0 0 53).toNatClampNeg (2 : Int32)) := ⟨_, rfl⟩
      rw [← e9] at hW
      have hX := lt_go hX e9
      refine lv_aload_n hx hb dX12_takesCommand_38 rfl (lv_at hl 0 rfl) ?_
      refine lv_bipush (v := (105 : Int32)) hx hb dX12_takesCommand_39 (by decide) ?_
      obtain ⟨r12, y13, h11, hX⟩ := bd2_go hX
      refine k_X12_skips hx hb hml hown htg hK hW hS h11 q1186 hl.1 (Nat.le_of_ble_eq_true rfl) (Nat.le_of_ble_eq_true rfl) (Nat.le_of_ble_eq_true rfl) ⟨Nat.zero_le _, Nat.zero_le _⟩ dX12_takesCommand_41 (fun H locs hW hS => ?_)
      refine lv_if_eq (tgt := 67) hx hb dX12_takesCommand_44 (by decide) (fun c14 => ?_) (fun c14 => ?_)
      · have hX := it_t hX c14
        refine lv_iconst (v := (0 : Int32)) hx hb dX12_takesCommand_67 (by decide) ?_
        have hX := Option.some.inj hX
        subst hX
        exact rt_z hx hb hr hlocks hW hS nb0 dX12_takesCommand_68
      · have hX := it_f hX c14
        refine lv_aload_n hx hb dX12_takesCommand_47 rfl (lv_at hl 0 rfl) ?_
        refine lv_iconst (v := (0 : Int32)) hx hb dX12_takesCommand_48 (by decide) ?_
        obtain ⟨r16, y17, h15, hX⟩ := bd2_go hX
        refine k_X12_takesAt hx hb hml hown htg hK hW hS h15 q1194 hl.1 (Nat.le_of_ble_eq_true rfl) (Nat.le_of_ble_eq_true rfl) (Nat.le_of_ble_eq_true rfl) ⟨Nat.zero_le _, Nat.zero_le _⟩ dX12_takesCommand_49 (fun H locs hW hS => ?_)
        refine lv_if_eq (tgt := 67) hx hb dX12_takesCommand_52 (by decide) (fun c18 => ?_) (fun c18 => ?_)
        · have hX := it_t hX c18
          refine lv_iconst (v := (0 : Int32)) hx hb dX12_takesCommand_67 (by decide) ?_
          have hX := Option.some.inj hX
          subst hX
          exact rt_z hx hb hr hlocks hW hS nb0 dX12_takesCommand_68
        · have hX := it_f hX c18
          refine lv_aload_n hx hb dX12_takesCommand_55 rfl (lv_at hl 0 rfl) ?_
          refine lv_iconst (v := (1 : Int32)) hx hb dX12_takesCommand_56 (by decide) ?_
          obtain ⟨r20, y21, h19, hX⟩ := bd2_go hX
          refine k_X12_takesAt hx hb hml hown htg hK hW hS h19 q1194 hl.1 (Nat.le_of_ble_eq_true rfl) (Nat.le_of_ble_eq_true rfl) (Nat.le_of_ble_eq_true rfl) ⟨Nat.zero_le _, Nat.zero_le _⟩ dX12_takesCommand_57 (fun H locs hW hS => ?_)
          refine lv_if_eq (tgt := 67) hx hb dX12_takesCommand_60 (by decide) (fun c22 => ?_) (fun c22 => ?_)
          · have hX := it_t hX c22
            refine lv_iconst (v := (0 : Int32)) hx hb dX12_takesCommand_67 (by decide) ?_
            have hX := Option.some.inj hX
            subst hX
            exact rt_z hx hb hr hlocks hW hS nb0 dX12_takesCommand_68
          · have hX := it_f hX c22
            refine lv_iconst (v := (1 : Int32)) hx hb dX12_takesCommand_63 (by decide) ?_
            refine lv_goto (tgt := 68) hx hb dX12_takesCommand_64 (by decide) ?_
            have hX := Option.some.inj hX
            subst hX
            exact rt_z hx hb hr hlocks hW hS nb1 dX12_takesCommand_68
    · have hX := it_f hX c8
      refine lv_aload_n hx hb dX12_takesCommand_23 rfl (lv_at hl 0 rfl) ?_
      obtain ⟨r24, y25, h23, hX⟩ := bd2_go hX
      refine k_X12_takesTicks hx hb hml hown htg hK hW hS h23 q1207 hl.1 (Nat.le_of_ble_eq_true rfl) (Nat.le_of_ble_eq_true rfl) (Nat.le_of_ble_eq_true rfl) ⟨Nat.zero_le _, Nat.zero_le _⟩ dX12_takesCommand_24 (fun H locs hW hS => ?_)
      obtain ⟨g9, hX⟩ := gb_go hX
      have hX := Option.some.inj hX
      subst hX
      exact rt_z hx hb hr hlocks hW hS (isB_n g9) dX12_takesCommand_27
  · have hX := it_f hX c4
    refine lv_aload_n hx hb dX12_takesCommand_9 rfl (lv_at hl 0 rfl) ?_
    obtain ⟨r27, y28, h26, hX⟩ := bd2_go hX
    refine k_X12_takesJob hx hb hml hown htg hK hW hS h26 q1190 hl.1 (Nat.le_of_ble_eq_true rfl) (Nat.le_of_ble_eq_true rfl) (Nat.le_of_ble_eq_true rfl) ⟨Nat.zero_le _, Nat.zero_le _⟩ dX12_takesCommand_10 (fun H locs hW hS => ?_)
    obtain ⟨g9, hX⟩ := gb_go hX
    have hX := Option.some.inj hX
    subst hX
    exact rt_z hx hb hr hlocks hW hS (isB_n g9) dX12_takesCommand_13
set_option maxHeartbeats 4000000 in
theorem k_X12_takesCommand {p : Program} {l : Launch} {e : Env} {R : Room} {s : State} {m : MethodId} {args : Array Value} {below : List Frame} {meth : Method} {c : Code} {H : Heap} {locs : List Loc} {cells slots : Nat} {Q : State → Prop} {cc : ByteArray} {pc nL idx : Nat} {own : String} {ls : Array Slot} {rest : List Value} {G : Geo} {x y : Mem} {H0 : Heap} {v : Int32} {z : Mem} (hx : p.tables.exec = Jvm.exec) (hb : c.code = cc) (hml : c.maxLocals = nL) (hown : s.vm.findClass own = some m.cls) (htg : ∀ w ∈ wsG, w.before args s = true) (hK : Kt G s) (hW : Wh G x y H) (hS : va_S (gF G) H0 H locs) (h : m_X12_takesCommand y = some (v, z)) (hlk : Cond.methodLink own idx yX12_takesCommand ∈ wsG) (hn : ls.size = nL) (hr : (rest.map fun v => v.category).sum ≤ 8) (hR1 : 4 + 1 ≤ R.frames) (hR2 : 8 + (1 + 11) + 84 ≤ R.locals) (hf : cells ≤ R.cells ∧ slots ≤ R.slots) (hdg : decode cc pc = .ok (.invokevirtual idx, 3)) (kk : ∀ (H1 : Heap) (locs1 : List Loc), Wh G x z H1 → va_S (gF G) H0 H1 locs1 → W p l e R s m args below meth c H1 locs1 cells slots Q (F0 m (pc + 3) ls (.int v :: rest))) : W p l e R s m args below meth c H locs cells slots Q (F0 m pc ls (.ref (gA G 40 0 0) :: rest)) := by
  refine va_calli (va_runV (As := []) (rest := rest) ⟨hx, hb, hml, hown, htg⟩ (c_X12_takesCommand l G x y (v, z) h) (cwV 0 htg (gd_V hlk q1183 q1184 q5 q1185) rfl rfl rfl (by decide +kernel) ⟨hR1, hR2⟩) ⟨fun a U g mk q => ⟨q.1, q.2.1.calling, q.2.2⟩, rc_40 hK hW, fun U hU hW9 => ⟨rfl, hK.warm hW9, by rw [hU]; exact hW⟩⟩ rfl rfl hn rfl (lv_room hr) hdg hf) hS (fun _ _ h9 => h9) (fun _ h9 => h9) ?_
  intro r9 u t H1 locs1 ht hvm hw hB hz1 hk1 hS1
  replace hB : Wh G x z t.heap := hB
  rw [ht] at hB
  replace hw : r9 = v := hw
  subst hw
  exact kk H1 locs1 hB hS1
/-! METHOD X12_takesText -/
def m_X12_takesText_b10 (k10 : Mem → Option (Int32 × Mem)) (y : Mem) : Option (Int32 × Mem) :=
  bd2_ (m_X12_takesCommand y) fun r4 y5 => if r4 = 0 then (some ((0 : Int32), y5)) else (lt_ (up4 y5 40 0 0 53 ((y5 40 0 0 53) + (1 : Int32))) fun y7 => bd2_ (m_X12_skips (59 : Int32) y7) fun r9 y10 => if r9 = 0 then (if (y10 40 0 0 52) = (y10 40 0 0 51) then (some ((1 : Int32), y10)) else (some ((0 : Int32), y10))) else (k10 y10))
def m_X12_takesText_l10 : Nat → Mem → Option (Int32 × Mem)
  | 0, _ => none
  | n + 1, y => m_X12_takesText_b10 (m_X12_takesText_l10 n) y
def m_X12_takesText (y : Mem) : Option (Int32 × Mem) :=
  lt_ (up4 y 40 0 0 52 (0 : Int32)) fun y1 => lt_ (up4 y1 40 0 0 53 (0 : Int32)) fun y2 => m_X12_takesText_l10 FU y2
abbrev WS_X12_takesText : List Cond := .code yX12_takesText cX12_takesText 1 (some .boolean) :: wsG
abbrev RM_X12_takesText : Room := { frames := 5, cells := 0, slots := 0, locals := 104 }
set_option maxHeartbeats 4000000 in
set_option maxRecDepth 100000 in
theorem c_X12_takesText (l : Launch) (G : Geo) (x y : Mem) (r : (Int32 × Mem)) (h : m_X12_takesText y = some r) : Met l yX12_takesText WS_X12_takesText RM_X12_takesText (Pw G x y [.ref (gA G 40 0 0)]) (Qi G x r.2 r.1) 0 0 (gF G) := by
  refine Met.ofW (cc := cX12_takesText) (maxL := 1) (ret := (some .boolean)) (by decide) rfl ?_
  intro p e s m args below meth c s₁ B hml hv
  obtain ⟨rfl, hK, hW⟩ := hv
  have hx := B.exec
  have hb := B.bytes
  have hr := B.returns
  have hts := atoms_spec (ws := WS_X12_takesText) B.pre
  have htg : ∀ w ∈ wsG, w.before _ s = true := fun w h => hts w (List.mem_cons_of_mem _ h)
  have hown : s.vm.findClass RX12 = some m.cls := findClass_of_methodNamed B.named
  have hlocks := B.notSynchronized
  have hS : va_S (gF G) s.heap s.heap [] := va_S.rf
  have hl := lv_entry ([.ref (gA G 40 0 0)]) (n := 1) (Nat.le_of_ble_eq_true rfl)
  rw [lg_entry_eq]
  generalize (lg_sl ([.ref (gA G 40 0 0)]) ++ List.replicate (1 - (lg_sl ([.ref (gA G 40 0 0)])).length) Slot.unset).toArray = ls at hl ⊢
  have hl : lv_has ls 1 [(0, .ref (gA G 40 0 0))] := hl
  have hX := h
  unfold m_X12_takesText at hX
  have B_10 : ∀ (k10 : Mem → Option (Int32 × Mem)) (hk10 : ∀ (y : Mem) (H : Heap) (locs : List Loc) (ls : Array Slot), Wh G x y H → va_S (gF G) s.heap H locs → lv_has ls 1 [(0, .ref (gA G 40 0 0))] → k10 y = some r → W p l e (headSpec WS_X12_takesText RM_X12_takesText).room s m ([.ref (gA G 40 0 0)] : List Value).toArray below meth c H locs 0 0 (MQ below (Qi G x r.2 r.1) ([.ref (gA G 40 0 0)] : List Value).toArray s 0 0 (gF G)) (F0 m 10 ls [])), ∀ (y : Mem) (H : Heap) (locs : List Loc) (ls : Array Slot), Wh G x y H → va_S (gF G) s.heap H locs → lv_has ls 1 [(0, .ref (gA G 40 0 0))] → m_X12_takesText_b10 k10 y = some r → W p l e (headSpec WS_X12_takesText RM_X12_takesText).room s m ([.ref (gA G 40 0 0)] : List Value).toArray below meth c H locs 0 0 (MQ below (Qi G x r.2 r.1) ([.ref (gA G 40 0 0)] : List Value).toArray s 0 0 (gF G)) (F0 m 10 ls []) := by
    intro k10 hk10 y H locs ls hW hS hl hX
    unfold m_X12_takesText_b10 at hX
    refine lv_aload_n hx hb dX12_takesText_10 rfl (lv_at hl 0 rfl) ?_
    obtain ⟨r4, y5, h3, hX⟩ := bd2_go hX
    refine k_X12_takesCommand hx hb hml hown htg hK hW hS h3 q1182 hl.1 (Nat.le_of_ble_eq_true rfl) (Nat.le_of_ble_eq_true rfl) (Nat.le_of_ble_eq_true rfl) ⟨Nat.zero_le _, Nat.zero_le _⟩ dX12_takesText_11 (fun H locs hW hS => ?_)
    refine lv_if_ne (tgt := 19) hx hb dX12_takesText_14 (by decide) (fun c6 => ?_) (fun c6 => ?_)
    · have hX := it_f hX c6
      refine lv_aload_n hx hb dX12_takesText_19 rfl (lv_at hl 0 rfl) ?_
      refine lv_dup hx hb dX12_takesText_20 rfl ?_
      refine gf_40_53 hx hb htg hown hK hW q1177 dX12_takesText_21 ?_
      refine lv_iconst (v := (1 : Int32)) hx hb dX12_takesText_24 (by decide) ?_
      refine lv_iadd hx hb dX12_takesText_25 ?_
      refine pf_40_53 hx hb htg hown hK hW hS q1177 dX12_takesText_26 (fun H locs hW hS => ?_)
      obtain ⟨y7, e9⟩ : ∃ w : Mem, w = (up4 y5 40 0 0 53 ((y5 40 0 0 53) + (1 : Int32))) := ⟨_, rfl⟩
      rw [← e9] at hW
      have hX := lt_go hX e9
      refine lv_aload_n hx hb dX12_takesText_29 rfl (lv_at hl 0 rfl) ?_
      refine lv_bipush (v := (59 : Int32)) hx hb dX12_takesText_30 (by decide) ?_
      obtain ⟨r9, y10, h8, hX⟩ := bd2_go hX
      refine k_X12_skips hx hb hml hown htg hK hW hS h8 q1186 hl.1 (Nat.le_of_ble_eq_true rfl) (Nat.le_of_ble_eq_true rfl) (Nat.le_of_ble_eq_true rfl) ⟨Nat.zero_le _, Nat.zero_le _⟩ dX12_takesText_32 (fun H locs hW hS => ?_)
      refine lv_if_ne (tgt := 10) hx hb dX12_takesText_35 (by decide) (fun c11 => ?_) (fun c11 => ?_)
      · have hX := it_f hX c11
        exact hk10 _ _ _ _ hW hS (lv_sub hl [0] rfl) hX
      · have hX := it_t hX c11
        refine lv_aload_n hx hb dX12_takesText_38 rfl (lv_at hl 0 rfl) ?_
        refine gf_40_52 hx hb htg hown hK hW q1176 dX12_takesText_39 ?_
        refine lv_aload_n hx hb dX12_takesText_42 rfl (lv_at hl 0 rfl) ?_
        refine gf_40_51 hx hb htg hown hK hW q1085 dX12_takesText_43 ?_
        refine lv_icmp_ne (tgt := 53) hx hb dX12_takesText_46 (by decide) (fun c12 => ?_) (fun c12 => ?_)
        · have hX := it_f hX c12
          refine lv_iconst (v := (0 : Int32)) hx hb dX12_takesText_53 (by decide) ?_
          have hX := Option.some.inj hX
          subst hX
          exact rt_z hx hb hr hlocks hW hS nb0 dX12_takesText_54
        · have hX := it_t hX c12
          refine lv_iconst (v := (1 : Int32)) hx hb dX12_takesText_49 (by decide) ?_
          refine lv_goto (tgt := 54) hx hb dX12_takesText_50 (by decide) ?_
          have hX := Option.some.inj hX
          subst hX
          exact rt_z hx hb hr hlocks hW hS nb1 dX12_takesText_54
    · have hX := it_t hX c6
      refine lv_iconst (v := (0 : Int32)) hx hb dX12_takesText_17 (by decide) ?_
      have hX := Option.some.inj hX
      subst hX
      exact rt_z hx hb hr hlocks hW hS nb0 dX12_takesText_18
  have L_10 : ∀ (n : Nat), ∀ (y : Mem) (H : Heap) (locs : List Loc) (ls : Array Slot), Wh G x y H → va_S (gF G) s.heap H locs → lv_has ls 1 [(0, .ref (gA G 40 0 0))] → m_X12_takesText_l10 n y = some r → W p l e (headSpec WS_X12_takesText RM_X12_takesText).room s m ([.ref (gA G 40 0 0)] : List Value).toArray below meth c H locs 0 0 (MQ below (Qi G x r.2 r.1) ([.ref (gA G 40 0 0)] : List Value).toArray s 0 0 (gF G)) (F0 m 10 ls []) := by
    intro n
    induction n with
    | zero => intro y H locs ls hW hS hl hX; exact no_go hX
    | succ n ih => intro y H locs ls hW hS hl hX; exact B_10 _ ih _ _ _ _ hW hS hl hX
  refine lv_aload_n hx hb dX12_takesText_0 rfl (lv_at hl 0 rfl) ?_
  refine lv_iconst (v := (0 : Int32)) hx hb dX12_takesText_1 (by decide) ?_
  refine pf_40_52 hx hb htg hown hK hW hS q1176 dX12_takesText_2 (fun H locs hW hS => ?_)
  obtain ⟨y1, e9⟩ : ∃ w : Mem, w = (up4 y 40 0 0 52 (0 : Int32)) := ⟨_, rfl⟩
  rw [← e9] at hW
  have hX := lt_go hX e9
  refine lv_aload_n hx hb dX12_takesText_5 rfl (lv_at hl 0 rfl) ?_
  refine lv_iconst (v := (0 : Int32)) hx hb dX12_takesText_6 (by decide) ?_
  refine pf_40_53 hx hb htg hown hK hW hS q1177 dX12_takesText_7 (fun H locs hW hS => ?_)
  obtain ⟨y2, e9⟩ : ∃ w : Mem, w = (up4 y1 40 0 0 53 (0 : Int32)) := ⟨_, rfl⟩
  rw [← e9] at hW
  have hX := lt_go hX e9
  exact L_10 FU _ _ _ _ hW hS (lv_sub hl [0] rfl) hX
set_option maxHeartbeats 4000000 in
theorem k_X12_takesText {p : Program} {l : Launch} {e : Env} {R : Room} {s : State} {m : MethodId} {args : Array Value} {below : List Frame} {meth : Method} {c : Code} {H : Heap} {locs : List Loc} {cells slots : Nat} {Q : State → Prop} {cc : ByteArray} {pc nL idx : Nat} {own : String} {ls : Array Slot} {rest : List Value} {G : Geo} {x y : Mem} {H0 : Heap} {v : Int32} {z : Mem} (hx : p.tables.exec = Jvm.exec) (hb : c.code = cc) (hml : c.maxLocals = nL) (hown : s.vm.findClass own = some m.cls) (htg : ∀ w ∈ wsG, w.before args s = true) (hK : Kt G s) (hW : Wh G x y H) (hS : va_S (gF G) H0 H locs) (h : m_X12_takesText y = some (v, z)) (hlk : Cond.methodLink own idx yX12_takesText ∈ wsG) (hn : ls.size = nL) (hr : (rest.map fun v => v.category).sum ≤ 8) (hR1 : 5 + 1 ≤ R.frames) (hR2 : 8 + (1 + 11) + 104 ≤ R.locals) (hf : cells ≤ R.cells ∧ slots ≤ R.slots) (hdg : decode cc pc = .ok (.invokevirtual idx, 3)) (kk : ∀ (H1 : Heap) (locs1 : List Loc), Wh G x z H1 → va_S (gF G) H0 H1 locs1 → W p l e R s m args below meth c H1 locs1 cells slots Q (F0 m (pc + 3) ls (.int v :: rest))) : W p l e R s m args below meth c H locs cells slots Q (F0 m pc ls (.ref (gA G 40 0 0) :: rest)) := by
  refine va_calli (va_runV (As := []) (rest := rest) ⟨hx, hb, hml, hown, htg⟩ (c_X12_takesText l G x y (v, z) h) (cwV 0 htg (gd_V hlk q1179 q1180 q5 q1181) rfl rfl rfl (by decide +kernel) ⟨hR1, hR2⟩) ⟨fun a U g mk q => ⟨q.1, q.2.1.calling, q.2.2⟩, rc_40 hK hW, fun U hU hW9 => ⟨rfl, hK.warm hW9, by rw [hU]; exact hW⟩⟩ rfl rfl hn rfl (lv_room hr) hdg hf) hS (fun _ _ h9 => h9) (fun _ h9 => h9) ?_
  intro r9 u t H1 locs1 ht hvm hw hB hz1 hk1 hS1
  replace hB : Wh G x z t.heap := hB
  rw [ht] at hB
  replace hw : r9 = v := hw
  subst hw
  exact kk H1 locs1 hB hS1
/-! METHOD X12_perform -/
def m_X12_perform_b39 (k39 : Int32 → Mem → Option (Int32 × Mem)) (x2 : Int32) (y : Mem) : Option (Int32 × Mem) :=
  if (y 40 0 0 53) ≤ x2 then (bd_ (m_X12_passAll (157, 0, 0) 573 (0 : Int32) (1 : Int32) y) fun y15 => bd_ (m_X12_passAll (158, 0, 0) 573 (0 : Int32) (0 : Int32) y15) fun y18 => bd_ (m_X12_remembers y18) fun y21 => bd_ (m_X12_passAll (157, 0, 0) 573 (0 : Int32) (0 : Int32) y21) fun y24 => some ((y24 40 0 0 53), y24)) else (bd2_ (m_X12_does x2 y) fun r26 y27 => if r26 = 0 then (bd_ (m_X12_passAll (158, 0, 0) 573 (0 : Int32) (0 : Int32) y27) fun y31 => bd2_ (m_X12_fails (1 : Int32) y31) fun r33 y34 => some (r33, y34)) else (lt_ (x2 + (1 : Int32)) fun x2_35 => k39 x2_35 y27))
def m_X12_perform_l39 : Nat → Int32 → Mem → Option (Int32 × Mem)
  | 0, _, _ => none
  | n + 1, x2, y => m_X12_perform_b39 (m_X12_perform_l39 n) x2 y
def m_X12_perform (y : Mem) : Option (Int32 × Mem) :=
  bd2_ (m_X12_takesText y) fun r2 y3 => lt_ r2 fun x1_4 => lt_ (up4 y3 40 0 0 51 (0 : Int32)) fun y5 => lt_ (up4 y5 40 0 0 0 (0 : Int32)) fun y6 => if x1_4 = 0 then (some (((-100 : Int32) - (y6 40 0 0 52)), y6)) else (bd_ (m_X12_passAll (158, 0, 0) 573 (0 : Int32) (1 : Int32) y6) fun y10 => lt_ (0 : Int32) fun x2_11 => m_X12_perform_l39 FU x2_11 y10)
abbrev WS_X12_perform : List Cond := .code yX12_perform cX12_perform 3 (some .int) :: wsG
abbrev RM_X12_perform : Room := { frames := 10, cells := 0, slots := 0, locals := 229 }
set_option maxHeartbeats 4000000 in
set_option maxRecDepth 100000 in
theorem c_X12_perform (l : Launch) (G : Geo) (x y : Mem) (r : (Int32 × Mem)) (h : m_X12_perform y = some r) : Met l yX12_perform WS_X12_perform RM_X12_perform (Pw G x y [.ref (gA G 40 0 0)]) (Qi G x r.2 r.1) 0 0 (gF G) := by
  refine Met.ofW (cc := cX12_perform) (maxL := 3) (ret := (some .int)) (by decide) rfl ?_
  intro p e s m args below meth c s₁ B hml hv
  obtain ⟨rfl, hK, hW⟩ := hv
  have hx := B.exec
  have hb := B.bytes
  have hr := B.returns
  have hts := atoms_spec (ws := WS_X12_perform) B.pre
  have htg : ∀ w ∈ wsG, w.before _ s = true := fun w h => hts w (List.mem_cons_of_mem _ h)
  have hown : s.vm.findClass RX12 = some m.cls := findClass_of_methodNamed B.named
  have hlocks := B.notSynchronized
  have hS : va_S (gF G) s.heap s.heap [] := va_S.rf
  have hl := lv_entry ([.ref (gA G 40 0 0)]) (n := 3) (Nat.le_of_ble_eq_true rfl)
  rw [lg_entry_eq]
  generalize (lg_sl ([.ref (gA G 40 0 0)]) ++ List.replicate (3 - (lg_sl ([.ref (gA G 40 0 0)])).length) Slot.unset).toArray = ls at hl ⊢
  have hl : lv_has ls 3 [(0, .ref (gA G 40 0 0))] := hl
  have hX := h
  unfold m_X12_perform at hX
  have B_39 : ∀ (k39 : Int32 → Mem → Option (Int32 × Mem)) (hk39 : ∀ (x2 : Int32) (y : Mem) (H : Heap) (locs : List Loc) (ls : Array Slot), Wh G x y H → va_S (gF G) s.heap H locs → lv_has ls 3 [(0, .ref (gA G 40 0 0)), (2, .int x2)] → k39 x2 y = some r → W p l e (headSpec WS_X12_perform RM_X12_perform).room s m ([.ref (gA G 40 0 0)] : List Value).toArray below meth c H locs 0 0 (MQ below (Qi G x r.2 r.1) ([.ref (gA G 40 0 0)] : List Value).toArray s 0 0 (gF G)) (F0 m 39 ls [])), ∀ (x2 : Int32) (y : Mem) (H : Heap) (locs : List Loc) (ls : Array Slot), Wh G x y H → va_S (gF G) s.heap H locs → lv_has ls 3 [(0, .ref (gA G 40 0 0)), (2, .int x2)] → m_X12_perform_b39 k39 x2 y = some r → W p l e (headSpec WS_X12_perform RM_X12_perform).room s m ([.ref (gA G 40 0 0)] : List Value).toArray below meth c H locs 0 0 (MQ below (Qi G x r.2 r.1) ([.ref (gA G 40 0 0)] : List Value).toArray s 0 0 (gF G)) (F0 m 39 ls []) := by
    intro k39 hk39 x2 y H locs ls hW hS hl hX
    unfold m_X12_perform_b39 at hX
    refine lv_iload_n hx hb dX12_perform_39 rfl (lv_at hl 1 rfl) ?_
    refine lv_aload_n hx hb dX12_perform_40 rfl (lv_at hl 0 rfl) ?_
    refine gf_40_53 hx hb htg hown hK hW q1177 dX12_perform_41 ?_
    refine lv_icmp_ge (tgt := 80) hx hb dX12_perform_44 (by decide) (fun c12 => ?_) (fun c12 => ?_)
    · have hX := it_t hX c12
      refine lv_aload_n hx hb dX12_perform_80 rfl (lv_at hl 0 rfl) ?_
      refine lv_aload_n hx hb dX12_perform_81 rfl (lv_at hl 0 rfl) ?_
      refine gf_40_57 hx hb htg hown hK hW q177 dX12_perform_82 ?_
      refine lv_iconst (v := (0 : Int32)) hx hb dX12_perform_85 (by decide) ?_
      refine lv_iconst (v := (1 : Int32)) hx hb dX12_perform_86 (by decide) ?_
      obtain ⟨y15, h13, hX⟩ := bd_go hX
      refine k_X12_passAll hx hb hml hown htg hK hW hS (ia_157) (show ¬ (157 : Nat) < 40 by decide) h13 q346 hl.1 (Nat.le_of_ble_eq_true rfl) (Nat.le_of_ble_eq_true rfl) (Nat.le_of_ble_eq_true rfl) ⟨Nat.zero_le _, Nat.zero_le _⟩ dX12_perform_87 (fun H locs hW hS => ?_)
      refine lv_aload_n hx hb dX12_perform_90 rfl (lv_at hl 0 rfl) ?_
      refine lv_aload_n hx hb dX12_perform_91 rfl (lv_at hl 0 rfl) ?_
      refine gf_40_58 hx hb htg hown hK hW q178 dX12_perform_92 ?_
      refine lv_iconst (v := (0 : Int32)) hx hb dX12_perform_95 (by decide) ?_
      refine lv_iconst (v := (0 : Int32)) hx hb dX12_perform_96 (by decide) ?_
      obtain ⟨y18, h16, hX⟩ := bd_go hX
      refine k_X12_passAll hx hb hml hown htg hK hW hS (ia_158) (show ¬ (158 : Nat) < 40 by decide) h16 q346 hl.1 (Nat.le_of_ble_eq_true rfl) (Nat.le_of_ble_eq_true rfl) (Nat.le_of_ble_eq_true rfl) ⟨Nat.zero_le _, Nat.zero_le _⟩ dX12_perform_97 (fun H locs hW hS => ?_)
      refine lv_aload_n hx hb dX12_perform_100 rfl (lv_at hl 0 rfl) ?_
      obtain ⟨y21, h19, hX⟩ := bd_go hX
      refine k_X12_remembers hx hb hml hown htg hK hW hS h19 q341 hl.1 (Nat.le_of_ble_eq_true rfl) (Nat.le_of_ble_eq_true rfl) (Nat.le_of_ble_eq_true rfl) ⟨Nat.zero_le _, Nat.zero_le _⟩ dX12_perform_101 (fun H locs hW hS => ?_)
      refine lv_aload_n hx hb dX12_perform_104 rfl (lv_at hl 0 rfl) ?_
      refine lv_aload_n hx hb dX12_perform_105 rfl (lv_at hl 0 rfl) ?_
      refine gf_40_57 hx hb htg hown hK hW q177 dX12_perform_106 ?_
      refine lv_iconst (v := (0 : Int32)) hx hb dX12_perform_109 (by decide) ?_
      refine lv_iconst (v := (0 : Int32)) hx hb dX12_perform_110 (by decide) ?_
      obtain ⟨y24, h22, hX⟩ := bd_go hX
      refine k_X12_passAll hx hb hml hown htg hK hW hS (ia_157) (show ¬ (157 : Nat) < 40 by decide) h22 q346 hl.1 (Nat.le_of_ble_eq_true rfl) (Nat.le_of_ble_eq_true rfl) (Nat.le_of_ble_eq_true rfl) ⟨Nat.zero_le _, Nat.zero_le _⟩ dX12_perform_111 (fun H locs hW hS => ?_)
      refine lv_aload_n hx hb dX12_perform_114 rfl (lv_at hl 0 rfl) ?_
      refine gf_40_53 hx hb htg hown hK hW q1177 dX12_perform_115 ?_
      have hX := Option.some.inj hX
      subst hX
      exact rt_i hx hb hr hlocks hW hS dX12_perform_118
    · have hX := it_f hX c12
      refine lv_aload_n hx hb dX12_perform_47 rfl (lv_at hl 0 rfl) ?_
      refine lv_iload_n hx hb dX12_perform_48 rfl (lv_at hl 1 rfl) ?_
      obtain ⟨r26, y27, h25, hX⟩ := bd2_go hX
      refine k_X12_does hx hb hml hown htg hK hW hS h25 q1211 hl.1 (Nat.le_of_ble_eq_true rfl) (Nat.le_of_ble_eq_true rfl) (Nat.le_of_ble_eq_true rfl) ⟨Nat.zero_le _, Nat.zero_le _⟩ dX12_perform_49 (fun H locs hW hS => ?_)
      refine lv_if_eq (tgt := 58) hx hb dX12_perform_52 (by decide) (fun c28 => ?_) (fun c28 => ?_)
      · have hX := it_t hX c28
        refine lv_aload_n hx hb dX12_perform_58 rfl (lv_at hl 0 rfl) ?_
        refine lv_aload_n hx hb dX12_perform_59 rfl (lv_at hl 0 rfl) ?_
        refine gf_40_58 hx hb htg hown hK hW q178 dX12_perform_60 ?_
        refine lv_iconst (v := (0 : Int32)) hx hb dX12_perform_63 (by decide) ?_
        refine lv_iconst (v := (0 : Int32)) hx hb dX12_perform_64 (by decide) ?_
        obtain ⟨y31, h29, hX⟩ := bd_go hX
        refine k_X12_passAll hx hb hml hown htg hK hW hS (ia_158) (show ¬ (158 : Nat) < 40 by decide) h29 q346 hl.1 (Nat.le_of_ble_eq_true rfl) (Nat.le_of_ble_eq_true rfl) (Nat.le_of_ble_eq_true rfl) ⟨Nat.zero_le _, Nat.zero_le _⟩ dX12_perform_65 (fun H locs hW hS => ?_)
        refine lv_aload_n hx hb dX12_perform_68 rfl (lv_at hl 0 rfl) ?_
        refine lv_iconst (v := (1 : Int32)) hx hb dX12_perform_69 (by decide) ?_
        obtain ⟨r33, y34, h32, hX⟩ := bd2_go hX
        refine k_X12_fails hx hb hml hown htg hK hW hS h32 q407 hl.1 (Nat.le_of_ble_eq_true rfl) (Nat.le_of_ble_eq_true rfl) (Nat.le_of_ble_eq_true rfl) ⟨Nat.zero_le _, Nat.zero_le _⟩ dX12_perform_70 (fun H locs hW hS => ?_)
        have hX := Option.some.inj hX
        subst hX
        exact rt_i hx hb hr hlocks hW hS dX12_perform_73
      · have hX := it_f hX c28
        refine lv_goto (tgt := 74) hx hb dX12_perform_55 (by decide) ?_
        obtain ⟨x2_35, e9⟩ : ∃ w : Int32, w = (x2 + (1 : Int32)) := ⟨_, rfl⟩
        have hX := lt_go hX e9
        refine lv_iinc (v := x2_35) (lv' := [(2, .int x2_35), (0, .ref (gA G 40 0 0))]) hx hb dX12_perform_74 hl (k := 1) rfl (by rw [e9]; rfl) (by decide) rfl (fun ls hl => ?_)
        refine lv_goto (tgt := 39) hx hb dX12_perform_77 (by decide) ?_
        exact hk39 _ _ _ _ _ hW hS (lv_sub hl [1, 0] rfl) hX
  have L_39 : ∀ (n : Nat), ∀ (x2 : Int32) (y : Mem) (H : Heap) (locs : List Loc) (ls : Array Slot), Wh G x y H → va_S (gF G) s.heap H locs → lv_has ls 3 [(0, .ref (gA G 40 0 0)), (2, .int x2)] → m_X12_perform_l39 n x2 y = some r → W p l e (headSpec WS_X12_perform RM_X12_perform).room s m ([.ref (gA G 40 0 0)] : List Value).toArray below meth c H locs 0 0 (MQ below (Qi G x r.2 r.1) ([.ref (gA G 40 0 0)] : List Value).toArray s 0 0 (gF G)) (F0 m 39 ls []) := by
    intro n
    induction n with
    | zero => intro x2 y H locs ls hW hS hl hX; exact no_go hX
    | succ n ih => intro x2 y H locs ls hW hS hl hX; exact B_39 _ ih _ _ _ _ _ hW hS hl hX
  refine lv_aload_n hx hb dX12_perform_0 rfl (lv_at hl 0 rfl) ?_
  obtain ⟨r2, y3, h1, hX⟩ := bd2_go hX
  refine k_X12_takesText hx hb hml hown htg hK hW hS h1 q1178 hl.1 (Nat.le_of_ble_eq_true rfl) (Nat.le_of_ble_eq_true rfl) (Nat.le_of_ble_eq_true rfl) ⟨Nat.zero_le _, Nat.zero_le _⟩ dX12_perform_1 (fun H locs hW hS => ?_)
  refine lv_topi (fun x1_4 e9 => ?_)
  have hX := lt_go hX e9
  refine lv_istore_n (lv' := [(1, .int x1_4), (0, .ref (gA G 40 0 0))]) hx hb dX12_perform_4 rfl hl (by decide) rfl (fun ls hl => ?_)
  refine lv_aload_n hx hb dX12_perform_5 rfl (lv_at hl 1 rfl) ?_
  refine lv_iconst (v := (0 : Int32)) hx hb dX12_perform_6 (by decide) ?_
  refine pf_40_51 hx hb htg hown hK hW hS q1085 dX12_perform_7 (fun H locs hW hS => ?_)
  obtain ⟨y5, e9⟩ : ∃ w : Mem, w = (up4 y3 40 0 0 51 (0 : Int32)) := ⟨_, rfl⟩
  rw [← e9] at hW
  have hX := lt_go hX e9
  refine lv_aload_n hx hb dX12_perform_10 rfl (lv_at hl 1 rfl) ?_
  refine lv_iconst (v := (0 : Int32)) hx hb dX12_perform_11 (by decide) ?_
  refine pf_40_0 hx hb htg hown hK hW hS q311 dX12_perform_12 (fun H locs hW hS => ?_)
  obtain ⟨y6, e9⟩ : ∃ w : Mem, w = (up4 y5 40 0 0 0 (0 : Int32)) := ⟨_, rfl⟩
  rw [← e9] at hW
  have hX := lt_go hX e9
  refine lv_iload_n hx hb dX12_perform_15 rfl (lv_at hl 0 rfl) ?_
  refine lv_if_ne (tgt := 27) hx hb dX12_perform_16 (by decide) (fun c7 => ?_) (fun c7 => ?_)
  · have hX := it_f hX c7
    refine lv_aload_n hx hb dX12_perform_27 rfl (lv_at hl 1 rfl) ?_
    refine lv_aload_n hx hb dX12_perform_28 rfl (lv_at hl 1 rfl) ?_
    refine gf_40_58 hx hb htg hown hK hW q178 dX12_perform_29 ?_
    refine lv_iconst (v := (0 : Int32)) hx hb dX12_perform_32 (by decide) ?_
    refine lv_iconst (v := (1 : Int32)) hx hb dX12_perform_33 (by decide) ?_
    obtain ⟨y10, h8, hX⟩ := bd_go hX
    refine k_X12_passAll hx hb hml hown htg hK hW hS (ia_158) (show ¬ (158 : Nat) < 40 by decide) h8 q346 hl.1 (Nat.le_of_ble_eq_true rfl) (Nat.le_of_ble_eq_true rfl) (Nat.le_of_ble_eq_true rfl) ⟨Nat.zero_le _, Nat.zero_le _⟩ dX12_perform_34 (fun H locs hW hS => ?_)
    refine lv_iconst (v := (0 : Int32)) hx hb dX12_perform_37 (by decide) ?_
    refine lv_topi (fun x2_11 e9 => ?_)
    have hX := lt_go hX e9
    refine lv_istore_n (lv' := [(2, .int x2_11), (1, .int x1_4), (0, .ref (gA G 40 0 0))]) hx hb dX12_perform_38 rfl hl (by decide) rfl (fun ls hl => ?_)
    exact L_39 FU _ _ _ _ _ hW hS (lv_sub hl [2, 0] rfl) hX
  · have hX := it_t hX c7
    refine lv_bipush (v := (-100 : Int32)) hx hb dX12_perform_19 (by decide) ?_
    refine lv_aload_n hx hb dX12_perform_21 rfl (lv_at hl 1 rfl) ?_
    refine gf_40_52 hx hb htg hown hK hW q1176 dX12_perform_22 ?_
    refine lv_isub hx hb dX12_perform_25 ?_
    have hX := Option.some.inj hX
    subst hX
    exact rt_i hx hb hr hlocks hW hS dX12_perform_26
set_option maxHeartbeats 4000000 in
theorem k_X12_perform {p : Program} {l : Launch} {e : Env} {R : Room} {s : State} {m : MethodId} {args : Array Value} {below : List Frame} {meth : Method} {c : Code} {H : Heap} {locs : List Loc} {cells slots : Nat} {Q : State → Prop} {cc : ByteArray} {pc nL idx : Nat} {own : String} {ls : Array Slot} {rest : List Value} {G : Geo} {x y : Mem} {H0 : Heap} {v : Int32} {z : Mem} (hx : p.tables.exec = Jvm.exec) (hb : c.code = cc) (hml : c.maxLocals = nL) (hown : s.vm.findClass own = some m.cls) (htg : ∀ w ∈ wsG, w.before args s = true) (hK : Kt G s) (hW : Wh G x y H) (hS : va_S (gF G) H0 H locs) (h : m_X12_perform y = some (v, z)) (hlk : Cond.methodLink own idx yX12_perform ∈ wsG) (hn : ls.size = nL) (hr : (rest.map fun v => v.category).sum ≤ 8) (hR1 : 10 + 1 ≤ R.frames) (hR2 : 8 + (3 + 11) + 229 ≤ R.locals) (hf : cells ≤ R.cells ∧ slots ≤ R.slots) (hdg : decode cc pc = .ok (.invokevirtual idx, 3)) (kk : ∀ (H1 : Heap) (locs1 : List Loc), Wh G x z H1 → va_S (gF G) H0 H1 locs1 → W p l e R s m args below meth c H1 locs1 cells slots Q (F0 m (pc + 3) ls (.int v :: rest))) : W p l e R s m args below meth c H locs cells slots Q (F0 m pc ls (.ref (gA G 40 0 0) :: rest)) := by
  refine va_calli (va_runV (As := []) (rest := rest) ⟨hx, hb, hml, hown, htg⟩ (c_X12_perform l G x y (v, z) h) (cwV 0 htg (gd_V hlk q1173 q1174 q5 q1175) rfl rfl rfl (by decide +kernel) ⟨hR1, hR2⟩) ⟨fun a U g mk q => ⟨q.1, q.2.1.calling, q.2.2⟩, rc_40 hK hW, fun U hU hW9 => ⟨rfl, hK.warm hW9, by rw [hU]; exact hW⟩⟩ rfl rfl hn rfl (lv_room hr) hdg hf) hS (fun _ _ h9 => h9) (fun _ h9 => h9) ?_
  intro r9 u t H1 locs1 ht hvm hw hB hz1 hk1 hS1
  replace hB : Wh G x z t.heap := hB
  rw [ht] at hB
  replace hw : r9 = v := hw
  subst hw
  exact kk H1 locs1 hB hS1
/-! METHOD X12_reason -/
def m_X12_reason (p0 : Int32) (p1 : Int32) (y : Mem) : Option (Int32 × Mem) :=
  bd_ (m_X12_isArm p0) fun r2 => if r2 = 0 then (bd2_ (m_X12_fails (1 : Int32) y) fun r12 y13 => some (r12, y13)) else (gd_ p0 3 (if (y 117 0 0 p0.toNatClampNeg) = 0 then (bd2_ (m_X12_fails (2 : Int32) y) fun r9 y10 => some (r9, y10)) else (lt_ (up4 y 40 0 0 0 (0 : Int32)) fun y6 => if p1 = 0 then (some ((y6 118 0 0 p0.toNatClampNeg), y6)) else (some ((y6 119 0 0 p0.toNatClampNeg), y6)))))
abbrev WS_X12_reason : List Cond := .code yX12_reason cX12_reason 3 (some .int) :: wsG
abbrev RM_X12_reason : Room := { frames := 2, cells := 0, slots := 0, locals := 42 }
set_option maxHeartbeats 4000000 in
set_option maxRecDepth 100000 in
theorem c_X12_reason (l : Launch) (G : Geo) (x y : Mem) (p0 : Int32) (p1 : Int32) (r : (Int32 × Mem)) (h : m_X12_reason p0 p1 y = some r) : Met l yX12_reason WS_X12_reason RM_X12_reason (Pw G x y [.ref (gA G 40 0 0), .int p0, .int p1]) (Qi G x r.2 r.1) 0 0 (gF G) := by
  refine Met.ofW (cc := cX12_reason) (maxL := 3) (ret := (some .int)) (by decide) rfl ?_
  intro p e s m args below meth c s₁ B hml hv
  obtain ⟨rfl, hK, hW⟩ := hv
  have hx := B.exec
  have hb := B.bytes
  have hr := B.returns
  have hts := atoms_spec (ws := WS_X12_reason) B.pre
  have htg : ∀ w ∈ wsG, w.before _ s = true := fun w h => hts w (List.mem_cons_of_mem _ h)
  have hown : s.vm.findClass RX12 = some m.cls := findClass_of_methodNamed B.named
  have hlocks := B.notSynchronized
  have hS : va_S (gF G) s.heap s.heap [] := va_S.rf
  have hl := lv_entry ([.ref (gA G 40 0 0), .int p0, .int p1]) (n := 3) (Nat.le_of_ble_eq_true rfl)
  rw [lg_entry_eq]
  generalize (lg_sl ([.ref (gA G 40 0 0), .int p0, .int p1]) ++ List.replicate (3 - (lg_sl ([.ref (gA G 40 0 0), .int p0, .int p1])).length) Slot.unset).toArray = ls at hl ⊢
  have hl : lv_has ls 3 [(0, .ref (gA G 40 0 0)), (1, .int p0), (2, .int p1)] := hl
  have hX := h
  unfold m_X12_reason at hX
  refine lv_iload_n hx hb dX12_reason_0 rfl (lv_at hl 1 rfl) ?_
  obtain ⟨r2, h1, hX⟩ := bd_go hX
  refine k_X12_isArm hx hb hml hown htg hK hW hS h1 q404 hl.1 (Nat.le_of_ble_eq_true rfl) (Nat.le_of_ble_eq_true rfl) (Nat.le_of_ble_eq_true rfl) ⟨Nat.zero_le _, Nat.zero_le _⟩ dX12_reason_1 (fun H locs hW hS => ?_)
  refine lv_if_ne (tgt := 13) hx hb dX12_reason_4 (by decide) (fun c3 => ?_) (fun c3 => ?_)
  · have hX := it_f hX c3
    refine lv_aload_n hx hb dX12_reason_13 rfl (lv_at hl 0 rfl) ?_
    refine gf_40_17 hx hb htg hown hK hW q152 dX12_reason_14 ?_
    refine lv_iload_n hx hb dX12_reason_17 rfl (lv_at hl 1 rfl) ?_
    obtain ⟨g4, hX⟩ := gd_go hX
    refine al_117 hx hb hK hW g4 dX12_reason_18 ?_
    refine lv_if_ne (tgt := 28) hx hb dX12_reason_19 (by decide) (fun c5 => ?_) (fun c5 => ?_)
    · have hX := it_f hX c5
      refine lv_aload_n hx hb dX12_reason_28 rfl (lv_at hl 0 rfl) ?_
      refine lv_iconst (v := (0 : Int32)) hx hb dX12_reason_29 (by decide) ?_
      refine pf_40_0 hx hb htg hown hK hW hS q311 dX12_reason_30 (fun H locs hW hS => ?_)
      obtain ⟨y6, e9⟩ : ∃ w : Mem, w = (up4 y 40 0 0 0 (0 : Int32)) := ⟨_, rfl⟩
      rw [← e9] at hW
      have hX := lt_go hX e9
      refine lv_iload_n hx hb dX12_reason_33 rfl (lv_at hl 2 rfl) ?_
      refine lv_if_eq (tgt := 46) hx hb dX12_reason_34 (by decide) (fun c7 => ?_) (fun c7 => ?_)
      · have hX := it_t hX c7
        refine lv_aload_n hx hb dX12_reason_46 rfl (lv_at hl 0 rfl) ?_
        refine gf_40_18 hx hb htg hown hK hW q153 dX12_reason_47 ?_
        refine lv_iload_n hx hb dX12_reason_50 rfl (lv_at hl 1 rfl) ?_
        refine al_118 hx hb hK hW g4 dX12_reason_51 ?_
        have hX := Option.some.inj hX
        subst hX
        exact rt_i hx hb hr hlocks hW hS dX12_reason_52
      · have hX := it_f hX c7
        refine lv_aload_n hx hb dX12_reason_37 rfl (lv_at hl 0 rfl) ?_
        refine gf_40_19 hx hb htg hown hK hW q154 dX12_reason_38 ?_
        refine lv_iload_n hx hb dX12_reason_41 rfl (lv_at hl 1 rfl) ?_
        refine al_119 hx hb hK hW g4 dX12_reason_42 ?_
        refine lv_goto (tgt := 52) hx hb dX12_reason_43 (by decide) ?_
        have hX := Option.some.inj hX
        subst hX
        exact rt_i hx hb hr hlocks hW hS dX12_reason_52
    · have hX := it_t hX c5
      refine lv_aload_n hx hb dX12_reason_22 rfl (lv_at hl 0 rfl) ?_
      refine lv_iconst (v := (2 : Int32)) hx hb dX12_reason_23 (by decide) ?_
      obtain ⟨r9, y10, h8, hX⟩ := bd2_go hX
      refine k_X12_fails hx hb hml hown htg hK hW hS h8 q407 hl.1 (Nat.le_of_ble_eq_true rfl) (Nat.le_of_ble_eq_true rfl) (Nat.le_of_ble_eq_true rfl) ⟨Nat.zero_le _, Nat.zero_le _⟩ dX12_reason_24 (fun H locs hW hS => ?_)
      have hX := Option.some.inj hX
      subst hX
      exact rt_i hx hb hr hlocks hW hS dX12_reason_27
  · have hX := it_t hX c3
    refine lv_aload_n hx hb dX12_reason_7 rfl (lv_at hl 0 rfl) ?_
    refine lv_iconst (v := (1 : Int32)) hx hb dX12_reason_8 (by decide) ?_
    obtain ⟨r12, y13, h11, hX⟩ := bd2_go hX
    refine k_X12_fails hx hb hml hown htg hK hW hS h11 q407 hl.1 (Nat.le_of_ble_eq_true rfl) (Nat.le_of_ble_eq_true rfl) (Nat.le_of_ble_eq_true rfl) ⟨Nat.zero_le _, Nat.zero_le _⟩ dX12_reason_9 (fun H locs hW hS => ?_)
    have hX := Option.some.inj hX
    subst hX
    exact rt_i hx hb hr hlocks hW hS dX12_reason_12
set_option maxHeartbeats 4000000 in
theorem k_X12_reason {p : Program} {l : Launch} {e : Env} {R : Room} {s : State} {m : MethodId} {args : Array Value} {below : List Frame} {meth : Method} {c : Code} {H : Heap} {locs : List Loc} {cells slots : Nat} {Q : State → Prop} {cc : ByteArray} {pc nL idx : Nat} {own : String} {ls : Array Slot} {rest : List Value} {G : Geo} {x y : Mem} {H0 : Heap} {p0 : Int32} {p1 : Int32} {v : Int32} {z : Mem} (hx : p.tables.exec = Jvm.exec) (hb : c.code = cc) (hml : c.maxLocals = nL) (hown : s.vm.findClass own = some m.cls) (htg : ∀ w ∈ wsG, w.before args s = true) (hK : Kt G s) (hW : Wh G x y H) (hS : va_S (gF G) H0 H locs) (h : m_X12_reason p0 p1 y = some (v, z)) (hlk : Cond.methodLink own idx yX12_reason ∈ wsG) (hn : ls.size = nL) (hr : (rest.map fun v => v.category).sum ≤ 8) (hR1 : 2 + 1 ≤ R.frames) (hR2 : 8 + (3 + 11) + 42 ≤ R.locals) (hf : cells ≤ R.cells ∧ slots ≤ R.slots) (hdg : decode cc pc = .ok (.invokevirtual idx, 3)) (kk : ∀ (H1 : Heap) (locs1 : List Loc), Wh G x z H1 → va_S (gF G) H0 H1 locs1 → W p l e R s m args below meth c H1 locs1 cells slots Q (F0 m (pc + 3) ls (.int v :: rest))) : W p l e R s m args below meth c H locs cells slots Q (F0 m pc ls (.int p1 :: .int p0 :: .ref (gA G 40 0 0) :: rest)) := by
  refine va_calli (va_runV (As := [.int p0, .int p1]) (rest := rest) ⟨hx, hb, hml, hown, htg⟩ (c_X12_reason l G x y p0 p1 (v, z) h) (cwV 2 htg (gd_V hlk q918 q919 q5 q920) rfl rfl rfl (by decide +kernel) ⟨hR1, hR2⟩) ⟨fun a U g mk q => ⟨q.1, q.2.1.calling, q.2.2⟩, rc_40 hK hW, fun U hU hW9 => ⟨rfl, hK.warm hW9, by rw [hU]; exact hW⟩⟩ rfl rfl hn rfl (lv_room hr) hdg hf) hS (fun _ _ h9 => h9) (fun _ h9 => h9) ?_
  intro r9 u t H1 locs1 ht hvm hw hB hz1 hk1 hS1
  replace hB : Wh G x z t.heap := hB
  rw [ht] at hB
  replace hw : r9 = v := hw
  subst hw
  exact kk H1 locs1 hB hS1
