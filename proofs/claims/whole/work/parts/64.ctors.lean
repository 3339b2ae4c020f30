abbrev q_f0 : List Value := [.null, .null, .null, .null, .null, .int 0]
theorem q_d0 : ∀ j, j < m_nf 0 → defaultValue (m_ty 0 j) = vp_V q_f0 j := fun j hj => by
  match j, hj with
  | 0, _ => rfl
  | 1, _ => rfl
  | 2, _ => rfl
  | 3, _ => rfl
  | 4, _ => rfl
  | 5, _ => rfl
abbrev q_f1 : List Value := [.null, .null, .null, .null, .null, .int 0, .int 0, .int 0, .int 0, .int 0, .int 0, .int 0]
theorem q_d1 : ∀ j, j < m_nf 1 → defaultValue (m_ty 1 j) = vp_V q_f1 j := fun j hj => by
  match j, hj with
  | 0, _ => rfl
  | 1, _ => rfl
  | 2, _ => rfl
  | 3, _ => rfl
  | 4, _ => rfl
  | 5, _ => rfl
  | 6, _ => rfl
  | 7, _ => rfl
  | 8, _ => rfl
  | 9, _ => rfl
  | 10, _ => rfl
  | 11, _ => rfl
abbrev q_f2 : List Value := [.null, .null, .null, .null, .int 0, .int 0, .int 0]
theorem q_d2 : ∀ j, j < m_nf 2 → defaultValue (m_ty 2 j) = vp_V q_f2 j := fun j hj => by
  match j, hj with
  | 0, _ => rfl
  | 1, _ => rfl
  | 2, _ => rfl
  | 3, _ => rfl
  | 4, _ => rfl
  | 5, _ => rfl
  | 6, _ => rfl
abbrev q_f3 : List Value := [.null, .null, .null, .null, .null, .int 0]
theorem q_d3 : ∀ j, j < m_nf 3 → defaultValue (m_ty 3 j) = vp_V q_f3 j := fun j hj => by
  match j, hj with
  | 0, _ => rfl
  | 1, _ => rfl
  | 2, _ => rfl
  | 3, _ => rfl
  | 4, _ => rfl
  | 5, _ => rfl
abbrev q_f4 : List Value := [.null, .null, .int 0, .int 0]
theorem q_d4 : ∀ j, j < m_nf 4 → defaultValue (m_ty 4 j) = vp_V q_f4 j := fun j hj => by
  match j, hj with
  | 0, _ => rfl
  | 1, _ => rfl
  | 2, _ => rfl
  | 3, _ => rfl
abbrev q_f5 : List Value := [.null, .null, .null, .null]
theorem q_d5 : ∀ j, j < m_nf 5 → defaultValue (m_ty 5 j) = vp_V q_f5 j := fun j hj => by
  match j, hj with
  | 0, _ => rfl
  | 1, _ => rfl
  | 2, _ => rfl
  | 3, _ => rfl
abbrev q_f6 : List Value := [.int 0, .int 0, .null, .null, .null, .null, .null, .null, .null, .long 0, .int 0, .int 0, .int 0, .int 0, .int 0, .int 0, .int 0, .null, .null, .null, .null, .null, .null, .int 0, .int 0, .null, .null, .null, .null, .int 0, .null]
theorem q_d6 : ∀ j, j < m_nf 6 → defaultValue (m_ty 6 j) = vp_V q_f6 j := fun j hj => by
  match j, hj with
  | 0, _ => rfl
  | 1, _ => rfl
  | 2, _ => rfl
  | 3, _ => rfl
  | 4, _ => rfl
  | 5, _ => rfl
  | 6, _ => rfl
  | 7, _ => rfl
  | 8, _ => rfl
  | 9, _ => rfl
  | 10, _ => rfl
  | 11, _ => rfl
  | 12, _ => rfl
  | 13, _ => rfl
  | 14, _ => rfl
  | 15, _ => rfl
  | 16, _ => rfl
  | 17, _ => rfl
  | 18, _ => rfl
  | 19, _ => rfl
  | 20, _ => rfl
  | 21, _ => rfl
  | 22, _ => rfl
  | 23, _ => rfl
  | 24, _ => rfl
  | 25, _ => rfl
  | 26, _ => rfl
  | 27, _ => rfl
  | 28, _ => rfl
  | 29, _ => rfl
  | 30, _ => rfl
  | j + 31, h => exact absurd (show j + 31 < 31 from h) (by omega)
abbrev q_k0 : Cond := .code yX0_init cX0_init 1 none
theorem q_kw0 : q_k0 ∈ m_gws := m_gw_in (k := 150) (by decide +kernel)
theorem q_im0 : Cond.instanceMethod yX0_init ∈ m_gws := m_gw_in (k := 149) (by decide +kernel)
theorem q_in0 : Cond.initialized RX0 ∈ m_gws := m_gw_in (k := 65) (by decide +kernel)
theorem q_is0 : Cond.instantiable RX0 6 ∈ m_gws := m_gw_in (k := 147) (by decide +kernel)
abbrev q_k1 : Cond := .code yX1_init cX1_init 3 none
theorem q_kw1 : q_k1 ∈ m_gws := m_gw_in (k := 144) (by decide +kernel)
theorem q_im1 : Cond.instanceMethod yX1_init ∈ m_gws := m_gw_in (k := 143) (by decide +kernel)
theorem q_in1 : Cond.initialized RX1 ∈ m_gws := m_gw_in (k := 64) (by decide +kernel)
theorem q_is1 : Cond.instantiable RX1 12 ∈ m_gws := m_gw_in (k := 141) (by decide +kernel)
abbrev q_k2 : Cond := .code yX2_init cX2_init 2 none
theorem q_kw2 : q_k2 ∈ m_gws := m_gw_in (k := 212) (by decide +kernel)
theorem q_im2 : Cond.instanceMethod yX2_init ∈ m_gws := m_gw_in (k := 211) (by decide +kernel)
theorem q_in2 : Cond.initialized RX2 ∈ m_gws := m_gw_in (k := 66) (by decide +kernel)
theorem q_is2 : Cond.instantiable RX2 7 ∈ m_gws := m_gw_in (k := 209) (by decide +kernel)
abbrev q_k3 : Cond := .code yX3_init cX3_init 1 none
theorem q_kw3 : q_k3 ∈ m_gws := m_gw_in (k := 89) (by decide +kernel)
theorem q_im3 : Cond.instanceMethod yX3_init ∈ m_gws := m_gw_in (k := 88) (by decide +kernel)
theorem q_in3 : Cond.initialized RX3 ∈ m_gws := m_gw_in (k := 62) (by decide +kernel)
theorem q_is3 : Cond.instantiable RX3 6 ∈ m_gws := m_gw_in (k := 86) (by decide +kernel)
abbrev q_k4 : Cond := .code yX4_init cX4_init 1 none
theorem q_kw4 : q_k4 ∈ m_gws := m_gw_in (k := 125) (by decide +kernel)
theorem q_im4 : Cond.instanceMethod yX4_init ∈ m_gws := m_gw_in (k := 124) (by decide +kernel)
theorem q_in4 : Cond.initialized RX4 ∈ m_gws := m_gw_in (k := 63) (by decide +kernel)
theorem q_is4 : Cond.instantiable RX4 4 ∈ m_gws := m_gw_in (k := 122) (by decide +kernel)
abbrev q_k5 : Cond := .code yX5_init cX5_init 1 none
theorem q_kw5 : q_k5 ∈ m_gws := m_gw_in (k := 81) (by decide +kernel)
theorem q_im5 : Cond.instanceMethod yX5_init ∈ m_gws := m_gw_in (k := 80) (by decide +kernel)
theorem q_in5 : Cond.initialized RX5 ∈ m_gws := m_gw_in (k := 61) (by decide +kernel)
theorem q_is5 : Cond.instantiable RX5 4 ∈ m_gws := m_gw_in (k := 78) (by decide +kernel)
abbrev q_k6 : Cond := .code yX6_init cX6_init 1 none
theorem q_kw6 : q_k6 ∈ m_gws := m_gw_in (k := 813) (by decide +kernel)
theorem q_im6 : Cond.instanceMethod yX6_init ∈ m_gws := m_gw_in (k := 812) (by decide +kernel)
theorem q_in6 : Cond.initialized RX6 ∈ m_gws := m_gw_in (k := 67) (by decide +kernel)
theorem q_is6 : Cond.instantiable RX6 31 ∈ m_gws := m_gw_in (k := 810) (by decide +kernel)
theorem q_oi0 : Cond.methodLink RX0 3 objectInit ∈ m_gws := m_gw_in (k := 151) (by decide +kernel)
theorem q_x0_0 : decode cX0_init 0 = .ok (.aload_n 0, 1) := by decide +kernel
theorem q_x0_1 : decode cX0_init 1 = .ok (.invokespecial 3, 3) := by decide +kernel
theorem q_x0_4 : decode cX0_init 4 = .ok (.aload_n 0, 1) := by decide +kernel
theorem q_x0_5 : decode cX0_init 5 = .ok (.bipush 40, 2) := by decide +kernel
theorem q_x0_7 : decode cX0_init 7 = .ok (.newarray .int, 2) := by decide +kernel
theorem q_x0_9 : decode cX0_init 9 = .ok (.putfield 9, 3) := by decide +kernel
theorem q_x0_12 : decode cX0_init 12 = .ok (.aload_n 0, 1) := by decide +kernel
theorem q_x0_13 : decode cX0_init 13 = .ok (.bipush 40, 2) := by decide +kernel
theorem q_x0_15 : decode cX0_init 15 = .ok (.newarray .int, 2) := by decide +kernel
theorem q_x0_17 : decode cX0_init 17 = .ok (.putfield 15, 3) := by decide +kernel
theorem q_x0_20 : decode cX0_init 20 = .ok (.aload_n 0, 1) := by decide +kernel
theorem q_x0_21 : decode cX0_init 21 = .ok (.bipush 40, 2) := by decide +kernel
theorem q_x0_23 : decode cX0_init 23 = .ok (.newarray .int, 2) := by decide +kernel
theorem q_x0_25 : decode cX0_init 25 = .ok (.putfield 18, 3) := by decide +kernel
theorem q_x0_28 : decode cX0_init 28 = .ok (.aload_n 0, 1) := by decide +kernel
theorem q_x0_29 : decode cX0_init 29 = .ok (.sipush 800, 3) := by decide +kernel
theorem q_x0_32 : decode cX0_init 32 = .ok (.newarray .int, 2) := by decide +kernel
theorem q_x0_34 : decode cX0_init 34 = .ok (.putfield 21, 3) := by decide +kernel
theorem q_x0_37 : decode cX0_init 37 = .ok (.aload_n 0, 1) := by decide +kernel
theorem q_x0_38 : decode cX0_init 38 = .ok (.bipush 20, 2) := by decide +kernel
theorem q_x0_40 : decode cX0_init 40 = .ok (.newarray .int, 2) := by decide +kernel
theorem q_x0_42 : decode cX0_init 42 = .ok (.putfield 24, 3) := by decide +kernel
theorem q_x0_45 : decode cX0_init 45 = .ok (.aload_n 0, 1) := by decide +kernel
theorem q_x0_46 : decode cX0_init 46 = .ok (.iconst 0, 1) := by decide +kernel
theorem q_x0_47 : decode cX0_init 47 = .ok (.putfield 27, 3) := by decide +kernel
theorem q_x0_50 : decode cX0_init 50 = .ok (.return_, 1) := by decide +kernel
theorem q_oi1 : Cond.methodLink RX1 3 objectInit ∈ m_gws := m_gw_in (k := 145) (by decide +kernel)
theorem q_x1_0 : decode cX1_init 0 = .ok (.aload_n 0, 1) := by decide +kernel
theorem q_x1_1 : decode cX1_init 1 = .ok (.invokespecial 3, 3) := by decide +kernel
theorem q_x1_4 : decode cX1_init 4 = .ok (.aload_n 0, 1) := by decide +kernel
theorem q_x1_5 : decode cX1_init 5 = .ok (.new 9, 3) := by decide +kernel
theorem q_x1_8 : decode cX1_init 8 = .ok (.dup, 1) := by decide +kernel
theorem q_x1_9 : decode cX1_init 9 = .ok (.invokespecial 11, 3) := by decide +kernel
theorem q_x1_12 : decode cX1_init 12 = .ok (.putfield 12, 3) := by decide +kernel
theorem q_x1_15 : decode cX1_init 15 = .ok (.aload_n 0, 1) := by decide +kernel
theorem q_x1_16 : decode cX1_init 16 = .ok (.bipush 6, 2) := by decide +kernel
theorem q_x1_18 : decode cX1_init 18 = .ok (.newarray .int, 2) := by decide +kernel
theorem q_x1_20 : decode cX1_init 20 = .ok (.putfield 18, 3) := by decide +kernel
theorem q_x1_23 : decode cX1_init 23 = .ok (.aload_n 0, 1) := by decide +kernel
theorem q_x1_24 : decode cX1_init 24 = .ok (.iconst 4, 1) := by decide +kernel
theorem q_x1_25 : decode cX1_init 25 = .ok (.newarray .int, 2) := by decide +kernel
theorem q_x1_27 : decode cX1_init 27 = .ok (.putfield 22, 3) := by decide +kernel
theorem q_x1_30 : decode cX1_init 30 = .ok (.aload_n 0, 1) := by decide +kernel
theorem q_x1_31 : decode cX1_init 31 = .ok (.iconst 0, 1) := by decide +kernel
theorem q_x1_32 : decode cX1_init 32 = .ok (.putfield 25, 3) := by decide +kernel
theorem q_x1_35 : decode cX1_init 35 = .ok (.aload_n 0, 1) := by decide +kernel
theorem q_x1_36 : decode cX1_init 36 = .ok (.iconst 0, 1) := by decide +kernel
theorem q_x1_37 : decode cX1_init 37 = .ok (.putfield 29, 3) := by decide +kernel
theorem q_x1_40 : decode cX1_init 40 = .ok (.aload_n 0, 1) := by decide +kernel
theorem q_x1_41 : decode cX1_init 41 = .ok (.iconst 0, 1) := by decide +kernel
theorem q_x1_42 : decode cX1_init 42 = .ok (.putfield 32, 3) := by decide +kernel
theorem q_x1_45 : decode cX1_init 45 = .ok (.aload_n 0, 1) := by decide +kernel
theorem q_x1_46 : decode cX1_init 46 = .ok (.iconst 4, 1) := by decide +kernel
theorem q_x1_47 : decode cX1_init 47 = .ok (.putfield 35, 3) := by decide +kernel
theorem q_x1_50 : decode cX1_init 50 = .ok (.aload_n 0, 1) := by decide +kernel
theorem q_x1_51 : decode cX1_init 51 = .ok (.iconst 0, 1) := by decide +kernel
theorem q_x1_52 : decode cX1_init 52 = .ok (.putfield 38, 3) := by decide +kernel
theorem q_x1_55 : decode cX1_init 55 = .ok (.aload_n 0, 1) := by decide +kernel
theorem q_x1_56 : decode cX1_init 56 = .ok (.iconst 0, 1) := by decide +kernel
theorem q_x1_57 : decode cX1_init 57 = .ok (.putfield 41, 3) := by decide +kernel
theorem q_x1_60 : decode cX1_init 60 = .ok (.aload_n 0, 1) := by decide +kernel
theorem q_x1_61 : decode cX1_init 61 = .ok (.bipush (-3), 2) := by decide +kernel
theorem q_x1_63 : decode cX1_init 63 = .ok (.putfield 44, 3) := by decide +kernel
theorem q_x1_66 : decode cX1_init 66 = .ok (.aload_n 0, 1) := by decide +kernel
theorem q_x1_67 : decode cX1_init 67 = .ok (.aload_n 1, 1) := by decide +kernel
theorem q_x1_68 : decode cX1_init 68 = .ok (.putfield 47, 3) := by decide +kernel
theorem q_x1_71 : decode cX1_init 71 = .ok (.aload_n 0, 1) := by decide +kernel
theorem q_x1_72 : decode cX1_init 72 = .ok (.aload_n 2, 1) := by decide +kernel
theorem q_x1_73 : decode cX1_init 73 = .ok (.putfield 51, 3) := by decide +kernel
theorem q_x1_76 : decode cX1_init 76 = .ok (.return_, 1) := by decide +kernel
theorem q_oi2 : Cond.methodLink RX2 5 objectInit ∈ m_gws := m_gw_in (k := 213) (by decide +kernel)
theorem q_x2_0 : decode cX2_init 0 = .ok (.aload_n 0, 1) := by decide +kernel
theorem q_x2_1 : decode cX2_init 1 = .ok (.invokespecial 5, 3) := by decide +kernel
theorem q_x2_4 : decode cX2_init 4 = .ok (.aload_n 0, 1) := by decide +kernel
theorem q_x2_5 : decode cX2_init 5 = .ok (.sipush 192, 3) := by decide +kernel
theorem q_x2_8 : decode cX2_init 8 = .ok (.newarray .int, 2) := by decide +kernel
theorem q_x2_10 : decode cX2_init 10 = .ok (.putfield 11, 3) := by decide +kernel
theorem q_x2_13 : decode cX2_init 13 = .ok (.aload_n 0, 1) := by decide +kernel
theorem q_x2_14 : decode cX2_init 14 = .ok (.iconst 3, 1) := by decide +kernel
theorem q_x2_15 : decode cX2_init 15 = .ok (.newarray .int, 2) := by decide +kernel
theorem q_x2_17 : decode cX2_init 17 = .ok (.putfield 15, 3) := by decide +kernel
theorem q_x2_20 : decode cX2_init 20 = .ok (.aload_n 0, 1) := by decide +kernel
theorem q_x2_21 : decode cX2_init 21 = .ok (.bipush 6, 2) := by decide +kernel
theorem q_x2_23 : decode cX2_init 23 = .ok (.newarray .int, 2) := by decide +kernel
theorem q_x2_25 : decode cX2_init 25 = .ok (.putfield 18, 3) := by decide +kernel
theorem q_x2_28 : decode cX2_init 28 = .ok (.aload_n 0, 1) := by decide +kernel
theorem q_x2_29 : decode cX2_init 29 = .ok (.iconst 0, 1) := by decide +kernel
theorem q_x2_30 : decode cX2_init 30 = .ok (.putfield 21, 3) := by decide +kernel
theorem q_x2_33 : decode cX2_init 33 = .ok (.aload_n 0, 1) := by decide +kernel
theorem q_x2_34 : decode cX2_init 34 = .ok (.iconst 0, 1) := by decide +kernel
theorem q_x2_35 : decode cX2_init 35 = .ok (.putfield 25, 3) := by decide +kernel
theorem q_x2_38 : decode cX2_init 38 = .ok (.aload_n 0, 1) := by decide +kernel
theorem q_x2_39 : decode cX2_init 39 = .ok (.iconst 0, 1) := by decide +kernel
theorem q_x2_40 : decode cX2_init 40 = .ok (.putfield 28, 3) := by decide +kernel
theorem q_x2_43 : decode cX2_init 43 = .ok (.aload_n 0, 1) := by decide +kernel
theorem q_x2_44 : decode cX2_init 44 = .ok (.aload_n 1, 1) := by decide +kernel
theorem q_x2_45 : decode cX2_init 45 = .ok (.putfield 32, 3) := by decide +kernel
theorem q_x2_48 : decode cX2_init 48 = .ok (.return_, 1) := by decide +kernel
theorem q_oi3 : Cond.methodLink RX3 3 objectInit ∈ m_gws := m_gw_in (k := 90) (by decide +kernel)
theorem q_x3_0 : decode cX3_init 0 = .ok (.aload_n 0, 1) := by decide +kernel
theorem q_x3_1 : decode cX3_init 1 = .ok (.invokespecial 3, 3) := by decide +kernel
theorem q_x3_4 : decode cX3_init 4 = .ok (.aload_n 0, 1) := by decide +kernel
theorem q_x3_5 : decode cX3_init 5 = .ok (.bipush 32, 2) := by decide +kernel
theorem q_x3_7 : decode cX3_init 7 = .ok (.newarray .int, 2) := by decide +kernel
theorem q_x3_9 : decode cX3_init 9 = .ok (.putfield 9, 3) := by decide +kernel
theorem q_x3_12 : decode cX3_init 12 = .ok (.aload_n 0, 1) := by decide +kernel
theorem q_x3_13 : decode cX3_init 13 = .ok (.bipush 32, 2) := by decide +kernel
theorem q_x3_15 : decode cX3_init 15 = .ok (.newarray .int, 2) := by decide +kernel
theorem q_x3_17 : decode cX3_init 17 = .ok (.putfield 15, 3) := by decide +kernel
theorem q_x3_20 : decode cX3_init 20 = .ok (.aload_n 0, 1) := by decide +kernel
theorem q_x3_21 : decode cX3_init 21 = .ok (.bipush 32, 2) := by decide +kernel
theorem q_x3_23 : decode cX3_init 23 = .ok (.newarray .int, 2) := by decide +kernel
theorem q_x3_25 : decode cX3_init 25 = .ok (.putfield 18, 3) := by decide +kernel
theorem q_x3_28 : decode cX3_init 28 = .ok (.aload_n 0, 1) := by decide +kernel
theorem q_x3_29 : decode cX3_init 29 = .ok (.bipush 32, 2) := by decide +kernel
theorem q_x3_31 : decode cX3_init 31 = .ok (.newarray .int, 2) := by decide +kernel
theorem q_x3_33 : decode cX3_init 33 = .ok (.putfield 21, 3) := by decide +kernel
theorem q_x3_36 : decode cX3_init 36 = .ok (.aload_n 0, 1) := by decide +kernel
theorem q_x3_37 : decode cX3_init 37 = .ok (.bipush 32, 2) := by decide +kernel
theorem q_x3_39 : decode cX3_init 39 = .ok (.newarray .int, 2) := by decide +kernel
theorem q_x3_41 : decode cX3_init 41 = .ok (.putfield 24, 3) := by decide +kernel
theorem q_x3_44 : decode cX3_init 44 = .ok (.aload_n 0, 1) := by decide +kernel
theorem q_x3_45 : decode cX3_init 45 = .ok (.iconst 0, 1) := by decide +kernel
theorem q_x3_46 : decode cX3_init 46 = .ok (.putfield 27, 3) := by decide +kernel
theorem q_x3_49 : decode cX3_init 49 = .ok (.return_, 1) := by decide +kernel
theorem q_oi4 : Cond.methodLink RX4 3 objectInit ∈ m_gws := m_gw_in (k := 126) (by decide +kernel)
theorem q_x4_0 : decode cX4_init 0 = .ok (.aload_n 0, 1) := by decide +kernel
theorem q_x4_1 : decode cX4_init 1 = .ok (.invokespecial 3, 3) := by decide +kernel
theorem q_x4_4 : decode cX4_init 4 = .ok (.aload_n 0, 1) := by decide +kernel
theorem q_x4_5 : decode cX4_init 5 = .ok (.sipush 192, 3) := by decide +kernel
theorem q_x4_8 : decode cX4_init 8 = .ok (.newarray .int, 2) := by decide +kernel
theorem q_x4_10 : decode cX4_init 10 = .ok (.putfield 9, 3) := by decide +kernel
theorem q_x4_13 : decode cX4_init 13 = .ok (.aload_n 0, 1) := by decide +kernel
theorem q_x4_14 : decode cX4_init 14 = .ok (.bipush 32, 2) := by decide +kernel
theorem q_x4_16 : decode cX4_init 16 = .ok (.newarray .int, 2) := by decide +kernel
theorem q_x4_18 : decode cX4_init 18 = .ok (.putfield 15, 3) := by decide +kernel
theorem q_x4_21 : decode cX4_init 21 = .ok (.aload_n 0, 1) := by decide +kernel
theorem q_x4_22 : decode cX4_init 22 = .ok (.iconst 0, 1) := by decide +kernel
theorem q_x4_23 : decode cX4_init 23 = .ok (.putfield 18, 3) := by decide +kernel
theorem q_x4_26 : decode cX4_init 26 = .ok (.aload_n 0, 1) := by decide +kernel
theorem q_x4_27 : decode cX4_init 27 = .ok (.iconst 0, 1) := by decide +kernel
theorem q_x4_28 : decode cX4_init 28 = .ok (.putfield 22, 3) := by decide +kernel
theorem q_x4_31 : decode cX4_init 31 = .ok (.return_, 1) := by decide +kernel
theorem q_oi5 : Cond.methodLink RX5 3 objectInit ∈ m_gws := m_gw_in (k := 82) (by decide +kernel)
theorem q_x5_0 : decode cX5_init 0 = .ok (.aload_n 0, 1) := by decide +kernel
theorem q_x5_1 : decode cX5_init 1 = .ok (.invokespecial 3, 3) := by decide +kernel
theorem q_x5_4 : decode cX5_init 4 = .ok (.aload_n 0, 1) := by decide +kernel
theorem q_x5_5 : decode cX5_init 5 = .ok (.new 9, 3) := by decide +kernel
theorem q_x5_8 : decode cX5_init 8 = .ok (.dup, 1) := by decide +kernel
theorem q_x5_9 : decode cX5_init 9 = .ok (.invokespecial 11, 3) := by decide +kernel
theorem q_x5_12 : decode cX5_init 12 = .ok (.putfield 12, 3) := by decide +kernel
theorem q_x5_15 : decode cX5_init 15 = .ok (.aload_n 0, 1) := by decide +kernel
theorem q_x5_16 : decode cX5_init 16 = .ok (.new 18, 3) := by decide +kernel
theorem q_x5_19 : decode cX5_init 19 = .ok (.dup, 1) := by decide +kernel
theorem q_x5_20 : decode cX5_init 20 = .ok (.invokespecial 20, 3) := by decide +kernel
theorem q_x5_23 : decode cX5_init 23 = .ok (.putfield 21, 3) := by decide +kernel
theorem q_x5_26 : decode cX5_init 26 = .ok (.aload_n 0, 1) := by decide +kernel
theorem q_x5_27 : decode cX5_init 27 = .ok (.new 25, 3) := by decide +kernel
theorem q_x5_30 : decode cX5_init 30 = .ok (.dup, 1) := by decide +kernel
theorem q_x5_31 : decode cX5_init 31 = .ok (.aload_n 0, 1) := by decide +kernel
theorem q_x5_32 : decode cX5_init 32 = .ok (.getfield 12, 3) := by decide +kernel
theorem q_x5_35 : decode cX5_init 35 = .ok (.aload_n 0, 1) := by decide +kernel
theorem q_x5_36 : decode cX5_init 36 = .ok (.getfield 21, 3) := by decide +kernel
theorem q_x5_39 : decode cX5_init 39 = .ok (.invokespecial 27, 3) := by decide +kernel
theorem q_x5_42 : decode cX5_init 42 = .ok (.putfield 30, 3) := by decide +kernel
theorem q_x5_45 : decode cX5_init 45 = .ok (.aload_n 0, 1) := by decide +kernel
theorem q_x5_46 : decode cX5_init 46 = .ok (.new 34, 3) := by decide +kernel
theorem q_x5_49 : decode cX5_init 49 = .ok (.dup, 1) := by decide +kernel
theorem q_x5_50 : decode cX5_init 50 = .ok (.aload_n 0, 1) := by decide +kernel
theorem q_x5_51 : decode cX5_init 51 = .ok (.getfield 12, 3) := by decide +kernel
theorem q_x5_54 : decode cX5_init 54 = .ok (.invokespecial 36, 3) := by decide +kernel
theorem q_x5_57 : decode cX5_init 57 = .ok (.putfield 39, 3) := by decide +kernel
theorem q_x5_60 : decode cX5_init 60 = .ok (.return_, 1) := by decide +kernel
theorem q_oi6 : Cond.methodLink RX6 1 objectInit ∈ m_gws := m_gw_in (k := 814) (by decide +kernel)
theorem q_x6_0 : decode cX6_init 0 = .ok (.aload_n 0, 1) := by decide +kernel
theorem q_x6_1 : decode cX6_init 1 = .ok (.invokespecial 1, 3) := by decide +kernel
theorem q_x6_4 : decode cX6_init 4 = .ok (.aload_n 0, 1) := by decide +kernel
theorem q_x6_5 : decode cX6_init 5 = .ok (.bipush 32, 2) := by decide +kernel
theorem q_x6_7 : decode cX6_init 7 = .ok (.newarray .int, 2) := by decide +kernel
theorem q_x6_9 : decode cX6_init 9 = .ok (.putfield 7, 3) := by decide +kernel
theorem q_x6_12 : decode cX6_init 12 = .ok (.aload_n 0, 1) := by decide +kernel
theorem q_x6_13 : decode cX6_init 13 = .ok (.bipush 32, 2) := by decide +kernel
theorem q_x6_15 : decode cX6_init 15 = .ok (.newarray .int, 2) := by decide +kernel
theorem q_x6_17 : decode cX6_init 17 = .ok (.putfield 13, 3) := by decide +kernel
theorem q_x6_20 : decode cX6_init 20 = .ok (.aload_n 0, 1) := by decide +kernel
theorem q_x6_21 : decode cX6_init 21 = .ok (.bipush 32, 2) := by decide +kernel
theorem q_x6_23 : decode cX6_init 23 = .ok (.newarray .int, 2) := by decide +kernel
theorem q_x6_25 : decode cX6_init 25 = .ok (.putfield 16, 3) := by decide +kernel
theorem q_x6_28 : decode cX6_init 28 = .ok (.aload_n 0, 1) := by decide +kernel
theorem q_x6_29 : decode cX6_init 29 = .ok (.bipush 32, 2) := by decide +kernel
theorem q_x6_31 : decode cX6_init 31 = .ok (.newarray .int, 2) := by decide +kernel
theorem q_x6_33 : decode cX6_init 33 = .ok (.putfield 19, 3) := by decide +kernel
theorem q_x6_36 : decode cX6_init 36 = .ok (.aload_n 0, 1) := by decide +kernel
theorem q_x6_37 : decode cX6_init 37 = .ok (.bipush 32, 2) := by decide +kernel
theorem q_x6_39 : decode cX6_init 39 = .ok (.newarray .int, 2) := by decide +kernel
theorem q_x6_41 : decode cX6_init 41 = .ok (.putfield 22, 3) := by decide +kernel
theorem q_x6_44 : decode cX6_init 44 = .ok (.aload_n 0, 1) := by decide +kernel
theorem q_x6_45 : decode cX6_init 45 = .ok (.sipush 192, 3) := by decide +kernel
theorem q_x6_48 : decode cX6_init 48 = .ok (.newarray .int, 2) := by decide +kernel
theorem q_x6_50 : decode cX6_init 50 = .ok (.putfield 25, 3) := by decide +kernel
theorem q_x6_53 : decode cX6_init 53 = .ok (.aload_n 0, 1) := by decide +kernel
theorem q_x6_54 : decode cX6_init 54 = .ok (.bipush 32, 2) := by decide +kernel
theorem q_x6_56 : decode cX6_init 56 = .ok (.newarray .int, 2) := by decide +kernel
theorem q_x6_58 : decode cX6_init 58 = .ok (.putfield 28, 3) := by decide +kernel
theorem q_x6_61 : decode cX6_init 61 = .ok (.aload_n 0, 1) := by decide +kernel
theorem q_x6_62 : decode cX6_init 62 = .ok (.sipush 500, 3) := by decide +kernel
theorem q_x6_65 : decode cX6_init 65 = .ok (.newarray .int, 2) := by decide +kernel
theorem q_x6_67 : decode cX6_init 67 = .ok (.putfield 31, 3) := by decide +kernel
theorem q_x6_70 : decode cX6_init 70 = .ok (.aload_n 0, 1) := by decide +kernel
theorem q_x6_71 : decode cX6_init 71 = .ok (.sipush 500, 3) := by decide +kernel
theorem q_x6_74 : decode cX6_init 74 = .ok (.newarray .int, 2) := by decide +kernel
theorem q_x6_76 : decode cX6_init 76 = .ok (.putfield 34, 3) := by decide +kernel
theorem q_x6_79 : decode cX6_init 79 = .ok (.aload_n 0, 1) := by decide +kernel
theorem q_x6_80 : decode cX6_init 80 = .ok (.sipush 500, 3) := by decide +kernel
theorem q_x6_83 : decode cX6_init 83 = .ok (.newarray .int, 2) := by decide +kernel
theorem q_x6_85 : decode cX6_init 85 = .ok (.putfield 37, 3) := by decide +kernel
theorem q_x6_88 : decode cX6_init 88 = .ok (.aload_n 0, 1) := by decide +kernel
theorem q_x6_89 : decode cX6_init 89 = .ok (.sipush 10000, 3) := by decide +kernel
theorem q_x6_92 : decode cX6_init 92 = .ok (.newarray .int, 2) := by decide +kernel
theorem q_x6_94 : decode cX6_init 94 = .ok (.putfield 40, 3) := by decide +kernel
theorem q_x6_97 : decode cX6_init 97 = .ok (.aload_n 0, 1) := by decide +kernel
theorem q_x6_98 : decode cX6_init 98 = .ok (.bipush 6, 2) := by decide +kernel
theorem q_x6_100 : decode cX6_init 100 = .ok (.newarray .int, 2) := by decide +kernel
theorem q_x6_102 : decode cX6_init 102 = .ok (.putfield 43, 3) := by decide +kernel
theorem q_x6_105 : decode cX6_init 105 = .ok (.aload_n 0, 1) := by decide +kernel
theorem q_x6_106 : decode cX6_init 106 = .ok (.iconst 4, 1) := by decide +kernel
theorem q_x6_107 : decode cX6_init 107 = .ok (.newarray .int, 2) := by decide +kernel
theorem q_x6_109 : decode cX6_init 109 = .ok (.putfield 46, 3) := by decide +kernel
theorem q_x6_112 : decode cX6_init 112 = .ok (.aload_n 0, 1) := by decide +kernel
theorem q_x6_113 : decode cX6_init 113 = .ok (.bipush 20, 2) := by decide +kernel
theorem q_x6_115 : decode cX6_init 115 = .ok (.newarray .int, 2) := by decide +kernel
theorem q_x6_117 : decode cX6_init 117 = .ok (.putfield 49, 3) := by decide +kernel
theorem q_x6_120 : decode cX6_init 120 = .ok (.aload_n 0, 1) := by decide +kernel
theorem q_x6_121 : decode cX6_init 121 = .ok (.sipush 192, 3) := by decide +kernel
theorem q_x6_124 : decode cX6_init 124 = .ok (.newarray .int, 2) := by decide +kernel
theorem q_x6_126 : decode cX6_init 126 = .ok (.putfield 52, 3) := by decide +kernel
theorem q_x6_129 : decode cX6_init 129 = .ok (.aload_n 0, 1) := by decide +kernel
theorem q_x6_130 : decode cX6_init 130 = .ok (.bipush 32, 2) := by decide +kernel
theorem q_x6_132 : decode cX6_init 132 = .ok (.newarray .boolean, 2) := by decide +kernel
theorem q_x6_134 : decode cX6_init 134 = .ok (.putfield 55, 3) := by decide +kernel
theorem q_x6_137 : decode cX6_init 137 = .ok (.aload_n 0, 1) := by decide +kernel
theorem q_x6_138 : decode cX6_init 138 = .ok (.iconst 3, 1) := by decide +kernel
theorem q_x6_139 : decode cX6_init 139 = .ok (.newarray .int, 2) := by decide +kernel
theorem q_x6_141 : decode cX6_init 141 = .ok (.putfield 59, 3) := by decide +kernel
theorem q_x6_144 : decode cX6_init 144 = .ok (.aload_n 0, 1) := by decide +kernel
theorem q_x6_145 : decode cX6_init 145 = .ok (.bipush 6, 2) := by decide +kernel
theorem q_x6_147 : decode cX6_init 147 = .ok (.newarray .int, 2) := by decide +kernel
theorem q_x6_149 : decode cX6_init 149 = .ok (.putfield 62, 3) := by decide +kernel
theorem q_x6_152 : decode cX6_init 152 = .ok (.return_, 1) := by decide +kernel
theorem q_blind {D : va_G} {cI cZ : ClassId} {as : List Value} {ws : va_W} {sz : Nat} {N : State → Prop} (hN : ∀ U U' : State, U.vm = U'.vm → N U → N U') : FrameBlind (q_Pc D cI cZ as ws sz N) := by
  intro a U g mk q
  obtain ⟨q0, q1, qP, qK, qD, qN⟩ := q
  exact ⟨q0, q1, qP, va_K.moved (u := U) (U := U.calling g mk a) (Vm.Alike.refl U.vm) qK, qD, hN U (U.calling g mk a) rfl qN⟩
theorem q_ui {s : State} : ∀ a b, va_RA s a .int → va_RA s b .int → a = b := fun a b h1 h2 => Option.some.inj ((show s.vm.findClass ("[" ++ FieldType.int.toString) = some a from h1).symm.trans h2)
theorem q_uz {s : State} : ∀ a b, va_RA s a .boolean → va_RA s b .boolean → a = b := fun a b h1 h2 => Option.some.inj ((show s.vm.findClass ("[" ++ FieldType.boolean.toString) = some a from h1).symm.trans h2)
abbrev q_w0 (cI cZ : ClassId) (h0 : Nat) (u : Nat → Nat) : va_W := [(h0, .inr (0, [.ref (u 0), .ref (u 1), .ref (u 2), .ref (u 3), .ref (u 4), .int 0])), (u 0, .inl (cI, 40, .inl (fun _ => 0))), (u 1, .inl (cI, 40, .inl (fun _ => 0))), (u 2, .inl (cI, 40, .inl (fun _ => 0))), (u 3, .inl (cI, 800, .inl (fun _ => 0))), (u 4, .inl (cI, 20, .inl (fun _ => 0)))]
set_option maxHeartbeats 4000000 in
set_option maxRecDepth 100000 in
theorem c_X0_init (l : Launch) (D : va_G) (cI cZ : ClassId) (h0 sz : Nat) : Met l yX0_init (q_k0 :: m_gws) ({ frames := 1, cells := 5, slots := 940, locals := 12 }) (q_Pc D cI cZ [.ref h0] [(h0, .inr (0, q_f0))] sz (fun _ => True)) (q_Qc D cI cZ (q_w0 cI cZ h0) (va_A [(h0, .inr (0, q_f0))] sz)) 5 940 (va_A [(h0, .inr (0, q_f0))] sz) := by
  refine Met.ofW (cc := cX0_init) (maxL := 1) (ret := none) (by decide) rfl ?_
  intro p e s m args below meth c s₁ B hml hv
  obtain ⟨rfl, hsz, hP, hK, hD0, hN⟩ := hv
  have hr := B.returns
  have hown : s.vm.findClass RX0 = some m.cls := findClass_of_methodNamed B.named
  have hin : meth.name = "<init>" := (name_of_methodNamed B.named B.method).1
  subst hsz
  have hD := hD0.self (sz := s.heap.size)
  generalize hAe : va_A [(h0, .inr (0, q_f0))] s.heap.size = A at hD ⊢
  have hA : ∀ q : Nat, s.heap.size ≤ q → A q := fun q h => by rw [← hAe]; exact Or.inr h
  have F : q_F p s m ([.ref h0] : List Value).toArray meth c cX0_init q_k0 D cI cZ A 0 := ⟨B.exec, B.bytes, atoms_spec (ws := q_k0 :: m_gws) B.pre, hown, hin, hK, hA, by decide⟩
  have hl := lv_entry ([.ref h0]) (n := 1) (Nat.le_of_ble_eq_true rfl)
  rw [lg_entry_eq]
  generalize (lg_sl ([.ref h0]) ++ List.replicate (1 - (lg_sl ([.ref h0])).length) Slot.unset).toArray = ls at hl ⊢
  have hl : lv_has ls 1 [(0, .ref h0)] := hl
  refine q_obj F hml hl q_oi0 q_iw q_cw (by show 1 ≤ 1; decide) (by show 12 ≤ 12; decide) q_x0_0 q_x0_1 ?_
  have S : q_S D A s s.heap [] [(h0, .inr (0, q_f0))] := ⟨hP, hD, va_S.rf⟩
  refine q_arr (x := 40) (n := 40) (te := .int) (tf := (.array .int)) (t0 := 0) (kf := 0) F S hl rfl rfl rfl q_ui q_a_int (by decide) rfl (by decide) (by show _ ≤ 5; omega) (by show _ ≤ 940; omega) (by decide) (Nat.le_of_ble_eq_true rfl) (by decide +kernel) rfl rfl (by decide +kernel) (fun _ => rfl) (fun _ => rfl) q_x0_4 (fun st h => lv_bipush F.1 F.2.1 q_x0_5 (by decide) h) q_x0_7 q_x0_9 (fun r0 H locs S => ?_)
  have S : q_S D A s H locs [(h0, .inr (0, [.ref r0, .null, .null, .null, .null, .int 0])), (r0, .inl (cI, 40, .inl (fun _ => 0)))] := S
  refine W.widen (k := 1) (n := 40) (by omega) (by omega) ?_
  refine q_arr (x := 40) (n := 40) (te := .int) (tf := (.array .int)) (t0 := 0) (kf := 1) F S hl rfl rfl rfl q_ui q_a_int (by decide) rfl (by decide) (by show _ ≤ 5; omega) (by show _ ≤ 940; omega) (by decide) (Nat.le_of_ble_eq_true rfl) (by decide +kernel) rfl rfl (by decide +kernel) (fun _ => rfl) (fun _ => rfl) q_x0_12 (fun st h => lv_bipush F.1 F.2.1 q_x0_13 (by decide) h) q_x0_15 q_x0_17 (fun r1 H locs S => ?_)
  have S : q_S D A s H locs [(h0, .inr (0, [.ref r0, .ref r1, .null, .null, .null, .int 0])), (r0, .inl (cI, 40, .inl (fun _ => 0))), (r1, .inl (cI, 40, .inl (fun _ => 0)))] := S
  refine W.widen (k := 2) (n := 80) (by omega) (by omega) ?_
  refine q_arr (x := 40) (n := 40) (te := .int) (tf := (.array .int)) (t0 := 0) (kf := 2) F S hl rfl rfl rfl q_ui q_a_int (by decide) rfl (by decide) (by show _ ≤ 5; omega) (by show _ ≤ 940; omega) (by decide) (Nat.le_of_ble_eq_true rfl) (by decide +kernel) rfl rfl (by decide +kernel) (fun _ => rfl) (fun _ => rfl) q_x0_20 (fun st h => lv_bipush F.1 F.2.1 q_x0_21 (by decide) h) q_x0_23 q_x0_25 (fun r2 H locs S => ?_)
  have S : q_S D A s H locs [(h0, .inr (0, [.ref r0, .ref r1, .ref r2, .null, .null, .int 0])), (r0, .inl (cI, 40, .inl (fun _ => 0))), (r1, .inl (cI, 40, .inl (fun _ => 0))), (r2, .inl (cI, 40, .inl (fun _ => 0)))] := S
  refine W.widen (k := 3) (n := 120) (by omega) (by omega) ?_
  refine q_arr (x := 800) (n := 800) (te := .int) (tf := (.array .int)) (t0 := 0) (kf := 3) F S hl rfl rfl rfl q_ui q_a_int (by decide) rfl (by decide) (by show _ ≤ 5; omega) (by show _ ≤ 940; omega) (by decide) (Nat.le_of_ble_eq_true rfl) (by decide +kernel) rfl rfl (by decide +kernel) (fun _ => rfl) (fun _ => rfl) q_x0_28 (fun st h => lv_sipush F.1 F.2.1 q_x0_29 (by decide) h) q_x0_32 q_x0_34 (fun r3 H locs S => ?_)
  have S : q_S D A s H locs [(h0, .inr (0, [.ref r0, .ref r1, .ref r2, .ref r3, .null, .int 0])), (r0, .inl (cI, 40, .inl (fun _ => 0))), (r1, .inl (cI, 40, .inl (fun _ => 0))), (r2, .inl (cI, 40, .inl (fun _ => 0))), (r3, .inl (cI, 800, .inl (fun _ => 0)))] := S
  refine W.widen (k := 4) (n := 920) (by omega) (by omega) ?_
  refine q_arr (x := 20) (n := 20) (te := .int) (tf := (.array .int)) (t0 := 0) (kf := 4) F S hl rfl rfl rfl q_ui q_a_int (by decide) rfl (by decide) (by show _ ≤ 5; omega) (by show _ ≤ 940; omega) (by decide) (Nat.le_of_ble_eq_true rfl) (by decide +kernel) rfl rfl (by decide +kernel) (fun _ => rfl) (fun _ => rfl) q_x0_37 (fun st h => lv_bipush F.1 F.2.1 q_x0_38 (by decide) h) q_x0_40 q_x0_42 (fun r4 H locs S => ?_)
  have S : q_S D A s H locs [(h0, .inr (0, [.ref r0, .ref r1, .ref r2, .ref r3, .ref r4, .int 0])), (r0, .inl (cI, 40, .inl (fun _ => 0))), (r1, .inl (cI, 40, .inl (fun _ => 0))), (r2, .inl (cI, 40, .inl (fun _ => 0))), (r3, .inl (cI, 800, .inl (fun _ => 0))), (r4, .inl (cI, 20, .inl (fun _ => 0)))] := S
  refine W.widen (k := 5) (n := 940) (by omega) (by omega) ?_
  refine q_int (x := 0) (tf := .int) (kf := 5) F S hl (by decide) (Nat.le_of_ble_eq_true rfl) (by decide +kernel) rfl (by decide +kernel) rfl rfl q_x0_45 (fun st h => lv_iconst F.1 F.2.1 q_x0_46 (by decide) h) q_x0_47 (fun H locs S => ?_)
  have S : q_S D A s H locs [(h0, .inr (0, [.ref r0, .ref r1, .ref r2, .ref r3, .ref r4, .int 0])), (r0, .inl (cI, 40, .inl (fun _ => 0))), (r1, .inl (cI, 40, .inl (fun _ => 0))), (r2, .inl (cI, 40, .inl (fun _ => 0))), (r3, .inl (cI, 800, .inl (fun _ => 0))), (r4, .inl (cI, 20, .inl (fun _ => 0)))] := S
  obtain ⟨hP, hD, hS⟩ := S
  exact W.vret F.1 F.2.1 hr (fun t ht hW => ⟨⟨q_u [r0, r1, r2, r3, r4], rfl, trivial, by rw [ht]; exact hP, va_K.moved hW.alike hK, hD⟩, hS.F ht⟩) hS.2.2 q_x0_50
abbrev q_w3 (cI cZ : ClassId) (h0 : Nat) (u : Nat → Nat) : va_W := [(h0, .inr (3, [.ref (u 0), .ref (u 1), .ref (u 2), .ref (u 3), .ref (u 4), .int 0])), (u 0, .inl (cI, 32, .inl (fun _ => 0))), (u 1, .inl (cI, 32, .inl (fun _ => 0))), (u 2, .inl (cI, 32, .inl (fun _ => 0))), (u 3, .inl (cI, 32, .inl (fun _ => 0))), (u 4, .inl (cI, 32, .inl (fun _ => 0)))]
set_option maxHeartbeats 4000000 in
set_option maxRecDepth 100000 in
theorem c_X3_init (l : Launch) (D : va_G) (cI cZ : ClassId) (h0 sz : Nat) : Met l yX3_init (q_k3 :: m_gws) ({ frames := 1, cells := 5, slots := 160, locals := 12 }) (q_Pc D cI cZ [.ref h0] [(h0, .inr (3, q_f3))] sz (fun _ => True)) (q_Qc D cI cZ (q_w3 cI cZ h0) (va_A [(h0, .inr (3, q_f3))] sz)) 5 160 (va_A [(h0, .inr (3, q_f3))] sz) := by
  refine Met.ofW (cc := cX3_init) (maxL := 1) (ret := none) (by decide) rfl ?_
  intro p e s m args below meth c s₁ B hml hv
  obtain ⟨rfl, hsz, hP, hK, hD0, hN⟩ := hv
  have hr := B.returns
  have hown : s.vm.findClass RX3 = some m.cls := findClass_of_methodNamed B.named
  have hin : meth.name = "<init>" := (name_of_methodNamed B.named B.method).1
  subst hsz
  have hD := hD0.self (sz := s.heap.size)
  generalize hAe : va_A [(h0, .inr (3, q_f3))] s.heap.size = A at hD ⊢
  have hA : ∀ q : Nat, s.heap.size ≤ q → A q := fun q h => by rw [← hAe]; exact Or.inr h
  have F : q_F p s m ([.ref h0] : List Value).toArray meth c cX3_init q_k3 D cI cZ A 3 := ⟨B.exec, B.bytes, atoms_spec (ws := q_k3 :: m_gws) B.pre, hown, hin, hK, hA, by decide⟩
  have hl := lv_entry ([.ref h0]) (n := 1) (Nat.le_of_ble_eq_true rfl)
  rw [lg_entry_eq]
  generalize (lg_sl ([.ref h0]) ++ List.replicate (1 - (lg_sl ([.ref h0])).length) Slot.unset).toArray = ls at hl ⊢
  have hl : lv_has ls 1 [(0, .ref h0)] := hl
  refine q_obj F hml hl q_oi3 q_iw q_cw (by show 1 ≤ 1; decide) (by show 12 ≤ 12; decide) q_x3_0 q_x3_1 ?_
  have S : q_S D A s s.heap [] [(h0, .inr (3, q_f3))] := ⟨hP, hD, va_S.rf⟩
  refine q_arr (x := 32) (n := 32) (te := .int) (tf := (.array .int)) (t0 := 0) (kf := 0) F S hl rfl rfl rfl q_ui q_a_int (by decide) rfl (by decide) (by show _ ≤ 5; omega) (by show _ ≤ 160; omega) (by decide) (Nat.le_of_ble_eq_true rfl) (by decide +kernel) rfl rfl (by decide +kernel) (fun _ => rfl) (fun _ => rfl) q_x3_4 (fun st h => lv_bipush F.1 F.2.1 q_x3_5 (by decide) h) q_x3_7 q_x3_9 (fun r0 H locs S => ?_)
  have S : q_S D A s H locs [(h0, .inr (3, [.ref r0, .null, .null, .null, .null, .int 0])), (r0, .inl (cI, 32, .inl (fun _ => 0)))] := S
  refine W.widen (k := 1) (n := 32) (by omega) (by omega) ?_
  refine q_arr (x := 32) (n := 32) (te := .int) (tf := (.array .int)) (t0 := 0) (kf := 1) F S hl rfl rfl rfl q_ui q_a_int (by decide) rfl (by decide) (by show _ ≤ 5; omega) (by show _ ≤ 160; omega) (by decide) (Nat.le_of_ble_eq_true rfl) (by decide +kernel) rfl rfl (by decide +kernel) (fun _ => rfl) (fun _ => rfl) q_x3_12 (fun st h => lv_bipush F.1 F.2.1 q_x3_13 (by decide) h) q_x3_15 q_x3_17 (fun r1 H locs S => ?_)
  have S : q_S D A s H locs [(h0, .inr (3, [.ref r0, .ref r1, .null, .null, .null, .int 0])), (r0, .inl (cI, 32, .inl (fun _ => 0))), (r1, .inl (cI, 32, .inl (fun _ => 0)))] := S
  refine W.widen (k := 2) (n := 64) (by omega) (by omega) ?_
  refine q_arr (x := 32) (n := 32) (te := .int) (tf := (.array .int)) (t0 := 0) (kf := 2) F S hl rfl rfl rfl q_ui q_a_int (by decide) rfl (by decide) (by show _ ≤ 5; omega) (by show _ ≤ 160; omega) (by decide) (Nat.le_of_ble_eq_true rfl) (by decide +kernel) rfl rfl (by decide +kernel) (fun _ => rfl) (fun _ => rfl) q_x3_20 (fun st h => lv_bipush F.1 F.2.1 q_x3_21 (by decide) h) q_x3_23 q_x3_25 (fun r2 H locs S => ?_)
  have S : q_S D A s H locs [(h0, .inr (3, [.ref r0, .ref r1, .ref r2, .null, .null, .int 0])), (r0, .inl (cI, 32, .inl (fun _ => 0))), (r1, .inl (cI, 32, .inl (fun _ => 0))), (r2, .inl (cI, 32, .inl (fun _ => 0)))] := S
  refine W.widen (k := 3) (n := 96) (by omega) (by omega) ?_
  refine q_arr (x := 32) (n := 32) (te := .int) (tf := (.array .int)) (t0 := 0) (kf := 3) F S hl rfl rfl rfl q_ui q_a_int (by decide) rfl (by decide) (by show _ ≤ 5; omega) (by show _ ≤ 160; omega) (by decide) (Nat.le_of_ble_eq_true rfl) (by decide +kernel) rfl rfl (by decide +kernel) (fun _ => rfl) (fun _ => rfl) q_x3_28 (fun st h => lv_bipush F.1 F.2.1 q_x3_29 (by decide) h) q_x3_31 q_x3_33 (fun r3 H locs S => ?_)
  have S : q_S D A s H locs [(h0, .inr (3, [.ref r0, .ref r1, .ref r2, .ref r3, .null, .int 0])), (r0, .inl (cI, 32, .inl (fun _ => 0))), (r1, .inl (cI, 32, .inl (fun _ => 0))), (r2, .inl (cI, 32, .inl (fun _ => 0))), (r3, .inl (cI, 32, .inl (fun _ => 0)))] := S
  refine W.widen (k := 4) (n := 128) (by omega) (by omega) ?_
  refine q_arr (x := 32) (n := 32) (te := .int) (tf := (.array .int)) (t0 := 0) (kf := 4) F S hl rfl rfl rfl q_ui q_a_int (by decide) rfl (by decide) (by show _ ≤ 5; omega) (by show _ ≤ 160; omega) (by decide) (Nat.le_of_ble_eq_true rfl) (by decide +kernel) rfl rfl (by decide +kernel) (fun _ => rfl) (fun _ => rfl) q_x3_36 (fun st h => lv_bipush F.1 F.2.1 q_x3_37 (by decide) h) q_x3_39 q_x3_41 (fun r4 H locs S => ?_)
  have S : q_S D A s H locs [(h0, .inr (3, [.ref r0, .ref r1, .ref r2, .ref r3, .ref r4, .int 0])), (r0, .inl (cI, 32, .inl (fun _ => 0))), (r1, .inl (cI, 32, .inl (fun _ => 0))), (r2, .inl (cI, 32, .inl (fun _ => 0))), (r3, .inl (cI, 32, .inl (fun _ => 0))), (r4, .inl (cI, 32, .inl (fun _ => 0)))] := S
  refine W.widen (k := 5) (n := 160) (by omega) (by omega) ?_
  refine q_int (x := 0) (tf := .int) (kf := 5) F S hl (by decide) (Nat.le_of_ble_eq_true rfl) (by decide +kernel) rfl (by decide +kernel) rfl rfl q_x3_44 (fun st h => lv_iconst F.1 F.2.1 q_x3_45 (by decide) h) q_x3_46 (fun H locs S => ?_)
  have S : q_S D A s H locs [(h0, .inr (3, [.ref r0, .ref r1, .ref r2, .ref r3, .ref r4, .int 0])), (r0, .inl (cI, 32, .inl (fun _ => 0))), (r1, .inl (cI, 32, .inl (fun _ => 0))), (r2, .inl (cI, 32, .inl (fun _ => 0))), (r3, .inl (cI, 32, .inl (fun _ => 0))), (r4, .inl (cI, 32, .inl (fun _ => 0)))] := S
  obtain ⟨hP, hD, hS⟩ := S
  exact W.vret F.1 F.2.1 hr (fun t ht hW => ⟨⟨q_u [r0, r1, r2, r3, r4], rfl, trivial, by rw [ht]; exact hP, va_K.moved hW.alike hK, hD⟩, hS.F ht⟩) hS.2.2 q_x3_49
abbrev q_w4 (cI cZ : ClassId) (h0 : Nat) (u : Nat → Nat) : va_W := [(h0, .inr (4, [.ref (u 0), .ref (u 1), .int 0, .int 0])), (u 0, .inl (cI, 192, .inl (fun _ => 0))), (u 1, .inl (cI, 32, .inl (fun _ => 0)))]
set_option maxHeartbeats 4000000 in
set_option maxRecDepth 100000 in
theorem c_X4_init (l : Launch) (D : va_G) (cI cZ : ClassId) (h0 sz : Nat) : Met l yX4_init (q_k4 :: m_gws) ({ frames := 1, cells := 2, slots := 224, locals := 12 }) (q_Pc D cI cZ [.ref h0] [(h0, .inr (4, q_f4))] sz (fun _ => True)) (q_Qc D cI cZ (q_w4 cI cZ h0) (va_A [(h0, .inr (4, q_f4))] sz)) 2 224 (va_A [(h0, .inr (4, q_f4))] sz) := by
  refine Met.ofW (cc := cX4_init) (maxL := 1) (ret := none) (by decide) rfl ?_
  intro p e s m args below meth c s₁ B hml hv
  obtain ⟨rfl, hsz, hP, hK, hD0, hN⟩ := hv
  have hr := B.returns
  have hown : s.vm.findClass RX4 = some m.cls := findClass_of_methodNamed B.named
  have hin : meth.name = "<init>" := (name_of_methodNamed B.named B.method).1
  subst hsz
  have hD := hD0.self (sz := s.heap.size)
  generalize hAe : va_A [(h0, .inr (4, q_f4))] s.heap.size = A at hD ⊢
  have hA : ∀ q : Nat, s.heap.size ≤ q → A q := fun q h => by rw [← hAe]; exact Or.inr h
  have F : q_F p s m ([.ref h0] : List Value).toArray meth c cX4_init q_k4 D cI cZ A 4 := ⟨B.exec, B.bytes, atoms_spec (ws := q_k4 :: m_gws) B.pre, hown, hin, hK, hA, by decide⟩
  have hl := lv_entry ([.ref h0]) (n := 1) (Nat.le_of_ble_eq_true rfl)
  rw [lg_entry_eq]
  generalize (lg_sl ([.ref h0]) ++ List.replicate (1 - (lg_sl ([.ref h0])).length) Slot.unset).toArray = ls at hl ⊢
  have hl : lv_has ls 1 [(0, .ref h0)] := hl
  refine q_obj F hml hl q_oi4 q_iw q_cw (by show 1 ≤ 1; decide) (by show 12 ≤ 12; decide) q_x4_0 q_x4_1 ?_
  have S : q_S D A s s.heap [] [(h0, .inr (4, q_f4))] := ⟨hP, hD, va_S.rf⟩
  refine q_arr (x := 192) (n := 192) (te := .int) (tf := (.array .int)) (t0 := 0) (kf := 0) F S hl rfl rfl rfl q_ui q_a_int (by decide) rfl (by decide) (by show _ ≤ 2; omega) (by show _ ≤ 224; omega) (by decide) (Nat.le_of_ble_eq_true rfl) (by decide +kernel) rfl rfl (by decide +kernel) (fun _ => rfl) (fun _ => rfl) q_x4_4 (fun st h => lv_sipush F.1 F.2.1 q_x4_5 (by decide) h) q_x4_8 q_x4_10 (fun r0 H locs S => ?_)
  have S : q_S D A s H locs [(h0, .inr (4, [.ref r0, .null, .int 0, .int 0])), (r0, .inl (cI, 192, .inl (fun _ => 0)))] := S
  refine W.widen (k := 1) (n := 192) (by omega) (by omega) ?_
  refine q_arr (x := 32) (n := 32) (te := .int) (tf := (.array .int)) (t0 := 0) (kf := 1) F S hl rfl rfl rfl q_ui q_a_int (by decide) rfl (by decide) (by show _ ≤ 2; omega) (by show _ ≤ 224; omega) (by decide) (Nat.le_of_ble_eq_true rfl) (by decide +kernel) rfl rfl (by decide +kernel) (fun _ => rfl) (fun _ => rfl) q_x4_13 (fun st h => lv_bipush F.1 F.2.1 q_x4_14 (by decide) h) q_x4_16 q_x4_18 (fun r1 H locs S => ?_)
  have S : q_S D A s H locs [(h0, .inr (4, [.ref r0, .ref r1, .int 0, .int 0])), (r0, .inl (cI, 192, .inl (fun _ => 0))), (r1, .inl (cI, 32, .inl (fun _ => 0)))] := S
  refine W.widen (k := 2) (n := 224) (by omega) (by omega) ?_
  refine q_int (x := 0) (tf := .int) (kf := 2) F S hl (by decide) (Nat.le_of_ble_eq_true rfl) (by decide +kernel) rfl (by decide +kernel) rfl rfl q_x4_21 (fun st h => lv_iconst F.1 F.2.1 q_x4_22 (by decide) h) q_x4_23 (fun H locs S => ?_)
  have S : q_S D A s H locs [(h0, .inr (4, [.ref r0, .ref r1, .int 0, .int 0])), (r0, .inl (cI, 192, .inl (fun _ => 0))), (r1, .inl (cI, 32, .inl (fun _ => 0)))] := S
  refine q_int (x := 0) (tf := .int) (kf := 3) F S hl (by decide) (Nat.le_of_ble_eq_true rfl) (by decide +kernel) rfl (by decide +kernel) rfl rfl q_x4_26 (fun st h => lv_iconst F.1 F.2.1 q_x4_27 (by decide) h) q_x4_28 (fun H locs S => ?_)
  have S : q_S D A s H locs [(h0, .inr (4, [.ref r0, .ref r1, .int 0, .int 0])), (r0, .inl (cI, 192, .inl (fun _ => 0))), (r1, .inl (cI, 32, .inl (fun _ => 0)))] := S
  obtain ⟨hP, hD, hS⟩ := S
  exact W.vret F.1 F.2.1 hr (fun t ht hW => ⟨⟨q_u [r0, r1], rfl, trivial, by rw [ht]; exact hP, va_K.moved hW.alike hK, hD⟩, hS.F ht⟩) hS.2.2 q_x4_31
abbrev q_w2 (cI cZ : ClassId) (h0 p1 : Nat) (u : Nat → Nat) : va_W := [(h0, .inr (2, [.ref p1, .ref (u 0), .ref (u 1), .ref (u 2), .int 0, .int 0, .int 0])), (u 0, .inl (cI, 192, .inl (fun _ => 0))), (u 1, .inl (cI, 3, .inl (fun _ => 0))), (u 2, .inl (cI, 6, .inl (fun _ => 0)))]
set_option maxHeartbeats 4000000 in
set_option maxRecDepth 100000 in
theorem c_X2_init (l : Launch) (D : va_G) (cI cZ : ClassId) (h0 p1 sz : Nat) : Met l yX2_init (q_k2 :: m_gws) ({ frames := 1, cells := 3, slots := 201, locals := 12 }) (q_Pc D cI cZ [.ref h0, .ref p1] [(h0, .inr (2, q_f2))] sz (fun _ => True)) (q_Qc D cI cZ (q_w2 cI cZ h0 p1) (va_A [(h0, .inr (2, q_f2))] sz)) 3 201 (va_A [(h0, .inr (2, q_f2))] sz) := by
  refine Met.ofW (cc := cX2_init) (maxL := 2) (ret := none) (by decide) rfl ?_
  intro p e s m args below meth c s₁ B hml hv
  obtain ⟨rfl, hsz, hP, hK, hD0, hN⟩ := hv
  have hr := B.returns
  have hown : s.vm.findClass RX2 = some m.cls := findClass_of_methodNamed B.named
  have hin : meth.name = "<init>" := (name_of_methodNamed B.named B.method).1
  subst hsz
  have hD := hD0.self (sz := s.heap.size)
  generalize hAe : va_A [(h0, .inr (2, q_f2))] s.heap.size = A at hD ⊢
  have hA : ∀ q : Nat, s.heap.size ≤ q → A q := fun q h => by rw [← hAe]; exact Or.inr h
  have F : q_F p s m ([.ref h0, .ref p1] : List Value).toArray meth c cX2_init q_k2 D cI cZ A 2 := ⟨B.exec, B.bytes, atoms_spec (ws := q_k2 :: m_gws) B.pre, hown, hin, hK, hA, by decide⟩
  have hl := lv_entry ([.ref h0, .ref p1]) (n := 2) (Nat.le_of_ble_eq_true rfl)
  rw [lg_entry_eq]
  generalize (lg_sl ([.ref h0, .ref p1]) ++ List.replicate (2 - (lg_sl ([.ref h0, .ref p1])).length) Slot.unset).toArray = ls at hl ⊢
  have hl : lv_has ls 2 [(0, .ref h0), (1, .ref p1)] := hl
  refine q_obj F hml hl q_oi2 q_iw q_cw (by show 1 ≤ 1; decide) (by show 12 ≤ 12; decide) q_x2_0 q_x2_1 ?_
  have S : q_S D A s s.heap [] [(h0, .inr (2, q_f2))] := ⟨hP, hD, va_S.rf⟩
  refine q_arr (x := 192) (n := 192) (te := .int) (tf := (.array .int)) (t0 := 0) (kf := 1) F S hl rfl rfl rfl q_ui q_a_int (by decide) rfl (by decide) (by show _ ≤ 3; omega) (by show _ ≤ 201; omega) (by decide) (Nat.le_of_ble_eq_true rfl) (by decide +kernel) rfl rfl (by decide +kernel) (fun _ => rfl) (fun _ => rfl) q_x2_4 (fun st h => lv_sipush F.1 F.2.1 q_x2_5 (by decide) h) q_x2_8 q_x2_10 (fun r0 H locs S => ?_)
  have S : q_S D A s H locs [(h0, .inr (2, [.null, .ref r0, .null, .null, .int 0, .int 0, .int 0])), (r0, .inl (cI, 192, .inl (fun _ => 0)))] := S
  refine W.widen (k := 1) (n := 192) (by omega) (by omega) ?_
  refine q_arr (x := 3) (n := 3) (te := .int) (tf := (.array .int)) (t0 := 0) (kf := 2) F S hl rfl rfl rfl q_ui q_a_int (by decide) rfl (by decide) (by show _ ≤ 3; omega) (by show _ ≤ 201; omega) (by decide) (Nat.le_of_ble_eq_true rfl) (by decide +kernel) rfl rfl (by decide +kernel) (fun _ => rfl) (fun _ => rfl) q_x2_13 (fun st h => lv_iconst F.1 F.2.1 q_x2_14 (by decide) h) q_x2_15 q_x2_17 (fun r1 H locs S => ?_)
  have S : q_S D A s H locs [(h0, .inr (2, [.null, .ref r0, .ref r1, .null, .int 0, .int 0, .int 0])), (r0, .inl (cI, 192, .inl (fun _ => 0))), (r1, .inl (cI, 3, .inl (fun _ => 0)))] := S
  refine W.widen (k := 2) (n := 195) (by omega) (by omega) ?_
  refine q_arr (x := 6) (n := 6) (te := .int) (tf := (.array .int)) (t0 := 0) (kf := 3) F S hl rfl rfl rfl q_ui q_a_int (by decide) rfl (by decide) (by show _ ≤ 3; omega) (by show _ ≤ 201; omega) (by decide) (Nat.le_of_ble_eq_true rfl) (by decide +kernel) rfl rfl (by decide +kernel) (fun _ => rfl) (fun _ => rfl) q_x2_20 (fun st h => lv_bipush F.1 F.2.1 q_x2_21 (by decide) h) q_x2_23 q_x2_25 (fun r2 H locs S => ?_)
  have S : q_S D A s H locs [(h0, .inr (2, [.null, .ref r0, .ref r1, .ref r2, .int 0, .int 0, .int 0])), (r0, .inl (cI, 192, .inl (fun _ => 0))), (r1, .inl (cI, 3, .inl (fun _ => 0))), (r2, .inl (cI, 6, .inl (fun _ => 0)))] := S
  refine W.widen (k := 3) (n := 201) (by omega) (by omega) ?_
  refine q_int (x := 0) (tf := .int) (kf := 4) F S hl (by decide) (Nat.le_of_ble_eq_true rfl) (by decide +kernel) rfl (by decide +kernel) rfl rfl q_x2_28 (fun st h => lv_iconst F.1 F.2.1 q_x2_29 (by decide) h) q_x2_30 (fun H locs S => ?_)
  have S : q_S D A s H locs [(h0, .inr (2, [.null, .ref r0, .ref r1, .ref r2, .int 0, .int 0, .int 0])), (r0, .inl (cI, 192, .inl (fun _ => 0))), (r1, .inl (cI, 3, .inl (fun _ => 0))), (r2, .inl (cI, 6, .inl (fun _ => 0)))] := S
  refine q_int (x := 0) (tf := .int) (kf := 5) F S hl (by decide) (Nat.le_of_ble_eq_true rfl) (by decide +kernel) rfl (by decide +kernel) rfl rfl q_x2_33 (fun st h => lv_iconst F.1 F.2.1 q_x2_34 (by decide) h) q_x2_35 (fun H locs S => ?_)
  have S : q_S D A s H locs [(h0, .inr (2, [.null, .ref r0, .ref r1, .ref r2, .int 0, .int 0, .int 0])), (r0, .inl (cI, 192, .inl (fun _ => 0))), (r1, .inl (cI, 3, .inl (fun _ => 0))), (r2, .inl (cI, 6, .inl (fun _ => 0)))] := S
  refine q_int (x := 0) (tf := .boolean) (kf := 6) F S hl (by decide) (Nat.le_of_ble_eq_true rfl) (by decide +kernel) rfl (by decide +kernel) rfl rfl q_x2_38 (fun st h => lv_iconst F.1 F.2.1 q_x2_39 (by decide) h) q_x2_40 (fun H locs S => ?_)
  have S : q_S D A s H locs [(h0, .inr (2, [.null, .ref r0, .ref r1, .ref r2, .int 0, .int 0, .int 0])), (r0, .inl (cI, 192, .inl (fun _ => 0))), (r1, .inl (cI, 3, .inl (fun _ => 0))), (r2, .inl (cI, 6, .inl (fun _ => 0)))] := S
  refine lv_aload_n F.1 F.2.1 q_x2_43 rfl (lv_at hl 0 rfl) ?_
  refine lv_aload_n F.1 F.2.1 q_x2_44 rfl (lv_at hl 1 rfl) ?_
  refine q_top (tf := (.object "NullKinds$Program")) (kf := 0) F S (by decide) (Nat.le_of_ble_eq_true rfl) (by decide +kernel) rfl rfl (by decide +kernel) rfl rfl q_x2_45 (fun H locs S => ?_)
  have S : q_S D A s H locs [(h0, .inr (2, [.ref p1, .ref r0, .ref r1, .ref r2, .int 0, .int 0, .int 0])), (r0, .inl (cI, 192, .inl (fun _ => 0))), (r1, .inl (cI, 3, .inl (fun _ => 0))), (r2, .inl (cI, 6, .inl (fun _ => 0)))] := S
  obtain ⟨hP, hD, hS⟩ := S
  exact W.vret F.1 F.2.1 hr (fun t ht hW => ⟨⟨q_u [r0, r1, r2], rfl, trivial, by rw [ht]; exact hP, va_K.moved hW.alike hK, hD⟩, hS.F ht⟩) hS.2.2 q_x2_48
abbrev q_w6 (cI cZ : ClassId) (h0 : Nat) (u : Nat → Nat) : va_W := [(h0, .inr (6, [.int 0, .int 0, .ref (u 0), .ref (u 1), .ref (u 2), .ref (u 3), .ref (u 4), .ref (u 5), .ref (u 6), .long 0, .int 0, .int 0, .int 0, .int 0, .int 0, .int 0, .int 0, .ref (u 7), .ref (u 8), .ref (u 9), .ref (u 10), .ref (u 11), .ref (u 12), .int 0, .int 0, .ref (u 13), .ref (u 14), .ref (u 15), .ref (u 16), .int 0, .ref (u 17)])), (u 0, .inl (cI, 32, .inl (fun _ => 0))), (u 1, .inl (cI, 32, .inl (fun _ => 0))), (u 2, .inl (cI, 32, .inl (fun _ => 0))), (u 3, .inl (cI, 32, .inl (fun _ => 0))), (u 4, .inl (cI, 32, .inl (fun _ => 0))), (u 5, .inl (cI, 192, .inl (fun _ => 0))), (u 6, .inl (cI, 32, .inl (fun _ => 0))), (u 7, .inl (cI, 500, .inl (fun _ => 0))), (u 8, .inl (cI, 500, .inl (fun _ => 0))), (u 9, .inl (cI, 500, .inl (fun _ => 0))), (u 10, .inl (cI, 10000, .inl (fun _ => 0))), (u 11, .inl (cI, 6, .inl (fun _ => 0))), (u 12, .inl (cI, 4, .inl (fun _ => 0))), (u 13, .inl (cI, 20, .inl (fun _ => 0))), (u 14, .inl (cI, 192, .inl (fun _ => 0))), (u 15, .inl (cZ, 32, .inl (fun _ => 0))), (u 16, .inl (cI, 3, .inl (fun _ => 0))), (u 17, .inl (cI, 6, .inl (fun _ => 0)))]
set_option maxHeartbeats 4000000 in
set_option maxRecDepth 100000 in
theorem c_X6_init (l : Launch) (D : va_G) (cI cZ : ClassId) (h0 sz : Nat) : Met l yX6_init (q_k6 :: m_gws) ({ frames := 1, cells := 18, slots := 12147, locals := 12 }) (q_Pc D cI cZ [.ref h0] [(h0, .inr (6, q_f6))] sz (fun _ => True)) (q_Qc D cI cZ (q_w6 cI cZ h0) (va_A [(h0, .inr (6, q_f6))] sz)) 18 12147 (va_A [(h0, .inr (6, q_f6))] sz) := by
  refine Met.ofW (cc := cX6_init) (maxL := 1) (ret := none) (by decide) rfl ?_
  intro p e s m args below meth c s₁ B hml hv
  obtain ⟨rfl, hsz, hP, hK, hD0, hN⟩ := hv
  have hr := B.returns
  have hown : s.vm.findClass RX6 = some m.cls := findClass_of_methodNamed B.named
  have hin : meth.name = "<init>" := (name_of_methodNamed B.named B.method).1
  subst hsz
  have hD := hD0.self (sz := s.heap.size)
  generalize hAe : va_A [(h0, .inr (6, q_f6))] s.heap.size = A at hD ⊢
  have hA : ∀ q : Nat, s.heap.size ≤ q → A q := fun q h => by rw [← hAe]; exact Or.inr h
  have F : q_F p s m ([.ref h0] : List Value).toArray meth c cX6_init q_k6 D cI cZ A 6 := ⟨B.exec, B.bytes, atoms_spec (ws := q_k6 :: m_gws) B.pre, hown, hin, hK, hA, by decide⟩
  have hl := lv_entry ([.ref h0]) (n := 1) (Nat.le_of_ble_eq_true rfl)
  rw [lg_entry_eq]
  generalize (lg_sl ([.ref h0]) ++ List.replicate (1 - (lg_sl ([.ref h0])).length) Slot.unset).toArray = ls at hl ⊢
  have hl : lv_has ls 1 [(0, .ref h0)] := hl
  refine q_obj F hml hl q_oi6 q_iw q_cw (by show 1 ≤ 1; decide) (by show 12 ≤ 12; decide) q_x6_0 q_x6_1 ?_
  have S : q_S D A s s.heap [] [(h0, .inr (6, q_f6))] := ⟨hP, hD, va_S.rf⟩
  refine q_arr (x := 32) (n := 32) (te := .int) (tf := (.array .int)) (t0 := 0) (kf := 2) F S hl rfl rfl rfl q_ui q_a_int (by decide) rfl (by decide) (by show _ ≤ 18; omega) (by show _ ≤ 12147; omega) (by decide) (Nat.le_of_ble_eq_true rfl) (by decide +kernel) rfl rfl (by decide +kernel) (fun _ => rfl) (fun _ => rfl) q_x6_4 (fun st h => lv_bipush F.1 F.2.1 q_x6_5 (by decide) h) q_x6_7 q_x6_9 (fun r0 H locs S => ?_)
  have S : q_S D A s H locs [(h0, .inr (6, [.int 0, .int 0, .ref r0, .null, .null, .null, .null, .null, .null, .long 0, .int 0, .int 0, .int 0, .int 0, .int 0, .int 0, .int 0, .null, .null, .null, .null, .null, .null, .int 0, .int 0, .null, .null, .null, .null, .int 0, .null])), (r0, .inl (cI, 32, .inl (fun _ => 0)))] := S
  refine W.widen (k := 1) (n := 32) (by omega) (by omega) ?_
  refine q_arr (x := 32) (n := 32) (te := .int) (tf := (.array .int)) (t0 := 0) (kf := 3) F S hl rfl rfl rfl q_ui q_a_int (by decide) rfl (by decide) (by show _ ≤ 18; omega) (by show _ ≤ 12147; omega) (by decide) (Nat.le_of_ble_eq_true rfl) (by decide +kernel) rfl rfl (by decide +kernel) (fun _ => rfl) (fun _ => rfl) q_x6_12 (fun st h => lv_bipush F.1 F.2.1 q_x6_13 (by decide) h) q_x6_15 q_x6_17 (fun r1 H locs S => ?_)
  have S : q_S D A s H locs [(h0, .inr (6, [.int 0, .int 0, .ref r0, .ref r1, .null, .null, .null, .null, .null, .long 0, .int 0, .int 0, .int 0, .int 0, .int 0, .int 0, .int 0, .null, .null, .null, .null, .null, .null, .int 0, .int 0, .null, .null, .null, .null, .int 0, .null])), (r0, .inl (cI, 32, .inl (fun _ => 0))), (r1, .inl (cI, 32, .inl (fun _ => 0)))] := S
  refine W.widen (k := 2) (n := 64) (by omega) (by omega) ?_
  refine q_arr (x := 32) (n := 32) (te := .int) (tf := (.array .int)) (t0 := 0) (kf := 4) F S hl rfl rfl rfl q_ui q_a_int (by decide) rfl (by decide) (by show _ ≤ 18; omega) (by show _ ≤ 12147; omega) (by decide) (Nat.le_of_ble_eq_true rfl) (by decide +kernel) rfl rfl (by decide +kernel) (fun _ => rfl) (fun _ => rfl) q_x6_20 (fun st h => lv_bipush F.1 F.2.1 q_x6_21 (by decide) h) q_x6_23 q_x6_25 (fun r2 H locs S => ?_)
  have S : q_S D A s H locs [(h0, .inr (6, [.int 0, .int 0, .ref r0, .ref r1, .ref r2, .null, .null, .null, .null, .long 0, .int 0, .int 0, .int 0, .int 0, .int 0, .int 0, .int 0, .null, .null, .null, .null, .null, .null, .int 0, .int 0, .null, .null, .null, .null, .int 0, .null])), (r0, .inl (cI, 32, .inl (fun _ => 0))), (r1, .inl (cI, 32, .inl (fun _ => 0))), (r2, .inl (cI, 32, .inl (fun _ => 0)))] := S
  refine W.widen (k := 3) (n := 96) (by omega) (by omega) ?_
  refine q_arr (x := 32) (n := 32) (te := .int) (tf := (.array .int)) (t0 := 0) (kf := 5) F S hl rfl rfl rfl q_ui q_a_int (by decide) rfl (by decide) (by show _ ≤ 18; omega) (by show _ ≤ 12147; omega) (by decide) (Nat.le_of_ble_eq_true rfl) (by decide +kernel) rfl rfl (by decide +kernel) (fun _ => rfl) (fun _ => rfl) q_x6_28 (fun st h => lv_bipush F.1 F.2.1 q_x6_29 (by decide) h) q_x6_31 q_x6_33 (fun r3 H locs S => ?_)
  have S : q_S D A s H locs [(h0, .inr (6, [.int 0, .int 0, .ref r0, .ref r1, .ref r2, .ref r3, .null, .null, .null, .long 0, .int 0, .int 0, .int 0, .int 0, .int 0, .int 0, .int 0, .null, .null, .null, .null, .null, .null, .int 0, .int 0, .null, .null, .null, .null, .int 0, .null])), (r0, .inl (cI, 32, .inl (fun _ => 0))), (r1, .inl (cI, 32, .inl (fun _ => 0))), (r2, .inl (cI, 32, .inl (fun _ => 0))), (r3, .inl (cI, 32, .inl (fun _ => 0)))] := S
  refine W.widen (k := 4) (n := 128) (by omega) (by omega) ?_
  refine q_arr (x := 32) (n := 32) (te := .int) (tf := (.array .int)) (t0 := 0) (kf := 6) F S hl rfl rfl rfl q_ui q_a_int (by decide) rfl (by decide) (by show _ ≤ 18; omega) (by show _ ≤ 12147; omega) (by decide) (Nat.le_of_ble_eq_true rfl) (by decide +kernel) rfl rfl (by decide +kernel) (fun _ => rfl) (fun _ => rfl) q_x6_36 (fun st h => lv_bipush F.1 F.2.1 q_x6_37 (by decide) h) q_x6_39 q_x6_41 (fun r4 H locs S => ?_)
  have S : q_S D A s H locs [(h0, .inr (6, [.int 0, .int 0, .ref r0, .ref r1, .ref r2, .ref r3, .ref r4, .null, .null, .long 0, .int 0, .int 0, .int 0, .int 0, .int 0, .int 0, .int 0, .null, .null, .null, .null, .null, .null, .int 0, .int 0, .null, .null, .null, .null, .int 0, .null])), (r0, .inl (cI, 32, .inl (fun _ => 0))), (r1, .inl (cI, 32, .inl (fun _ => 0))), (r2, .inl (cI, 32, .inl (fun _ => 0))), (r3, .inl (cI, 32, .inl (fun _ => 0))), (r4, .inl (cI, 32, .inl (fun _ => 0)))] := S
  refine W.widen (k := 5) (n := 160) (by omega) (by omega) ?_
  refine q_arr (x := 192) (n := 192) (te := .int) (tf := (.array .int)) (t0 := 0) (kf := 7) F S hl rfl rfl rfl q_ui q_a_int (by decide) rfl (by decide) (by show _ ≤ 18; omega) (by show _ ≤ 12147; omega) (by decide) (Nat.le_of_ble_eq_true rfl) (by decide +kernel) rfl rfl (by decide +kernel) (fun _ => rfl) (fun _ => rfl) q_x6_44 (fun st h => lv_sipush F.1 F.2.1 q_x6_45 (by decide) h) q_x6_48 q_x6_50 (fun r5 H locs S => ?_)
  have S : q_S D A s H locs [(h0, .inr (6, [.int 0, .int 0, .ref r0, .ref r1, .ref r2, .ref r3, .ref r4, .ref r5, .null, .long 0, .int 0, .int 0, .int 0, .int 0, .int 0, .int 0, .int 0, .null, .null, .null, .null, .null, .null, .int 0, .int 0, .null, .null, .null, .null, .int 0, .null])), (r0, .inl (cI, 32, .inl (fun _ => 0))), (r1, .inl (cI, 32, .inl (fun _ => 0))), (r2, .inl (cI, 32, .inl (fun _ => 0))), (r3, .inl (cI, 32, .inl (fun _ => 0))), (r4, .inl (cI, 32, .inl (fun _ => 0))), (r5, .inl (cI, 192, .inl (fun _ => 0)))] := S
  refine W.widen (k := 6) (n := 352) (by omega) (by omega) ?_
  refine q_arr (x := 32) (n := 32) (te := .int) (tf := (.array .int)) (t0 := 0) (kf := 8) F S hl rfl rfl rfl q_ui q_a_int (by decide) rfl (by decide) (by show _ ≤ 18; omega) (by show _ ≤ 12147; omega) (by decide) (Nat.le_of_ble_eq_true rfl) (by decide +kernel) rfl rfl (by decide +kernel) (fun _ => rfl) (fun _ => rfl) q_x6_53 (fun st h => lv_bipush F.1 F.2.1 q_x6_54 (by decide) h) q_x6_56 q_x6_58 (fun r6 H locs S => ?_)
  have S : q_S D A s H locs [(h0, .inr (6, [.int 0, .int 0, .ref r0, .ref r1, .ref r2, .ref r3, .ref r4, .ref r5, .ref r6, .long 0, .int 0, .int 0, .int 0, .int 0, .int 0, .int 0, .int 0, .null, .null, .null, .null, .null, .null, .int 0, .int 0, .null, .null, .null, .null, .int 0, .null])), (r0, .inl (cI, 32, .inl (fun _ => 0))), (r1, .inl (cI, 32, .inl (fun _ => 0))), (r2, .inl (cI, 32, .inl (fun _ => 0))), (r3, .inl (cI, 32, .inl (fun _ => 0))), (r4, .inl (cI, 32, .inl (fun _ => 0))), (r5, .inl (cI, 192, .inl (fun _ => 0))), (r6, .inl (cI, 32, .inl (fun _ => 0)))] := S
  refine W.widen (k := 7) (n := 384) (by omega) (by omega) ?_
  refine q_arr (x := 500) (n := 500) (te := .int) (tf := (.array .int)) (t0 := 0) (kf := 17) F S hl rfl rfl rfl q_ui q_a_int (by decide) rfl (by decide) (by show _ ≤ 18; omega) (by show _ ≤ 12147; omega) (by decide) (Nat.le_of_ble_eq_true rfl) (by decide +kernel) rfl rfl (by decide +kernel) (fun _ => rfl) (fun _ => rfl) q_x6_61 (fun st h => lv_sipush F.1 F.2.1 q_x6_62 (by decide) h) q_x6_65 q_x6_67 (fun r7 H locs S => ?_)
  have S : q_S D A s H locs [(h0, .inr (6, [.int 0, .int 0, .ref r0, .ref r1, .ref r2, .ref r3, .ref r4, .ref r5, .ref r6, .long 0, .int 0, .int 0, .int 0, .int 0, .int 0, .int 0, .int 0, .ref r7, .null, .null, .null, .null, .null, .int 0, .int 0, .null, .null, .null, .null, .int 0, .null])), (r0, .inl (cI, 32, .inl (fun _ => 0))), (r1, .inl (cI, 32, .inl (fun _ => 0))), (r2, .inl (cI, 32, .inl (fun _ => 0))), (r3, .inl (cI, 32, .inl (fun _ => 0))), (r4, .inl (cI, 32, .inl (fun _ => 0))), (r5, .inl (cI, 192, .inl (fun _ => 0))), (r6, .inl (cI, 32, .inl (fun _ => 0))), (r7, .inl (cI, 500, .inl (fun _ => 0)))] := S
  refine W.widen (k := 8) (n := 884) (by omega) (by omega) ?_
  refine q_arr (x := 500) (n := 500) (te := .int) (tf := (.array .int)) (t0 := 0) (kf := 18) F S hl rfl rfl rfl q_ui q_a_int (by decide) rfl (by decide) (by show _ ≤ 18; omega) (by show _ ≤ 12147; omega) (by decide) (Nat.le_of_ble_eq_true rfl) (by decide +kernel) rfl rfl (by decide +kernel) (fun _ => rfl) (fun _ => rfl) q_x6_70 (fun st h => lv_sipush F.1 F.2.1 q_x6_71 (by decide) h) q_x6_74 q_x6_76 (fun r8 H locs S => ?_)
  have S : q_S D A s H locs [(h0, .inr (6, [.int 0, .int 0, .ref r0, .ref r1, .ref r2, .ref r3, .ref r4, .ref r5, .ref r6, .long 0, .int 0, .int 0, .int 0, .int 0, .int 0, .int 0, .int 0, .ref r7, .ref r8, .null, .null, .null, .null, .int 0, .int 0, .null, .null, .null, .null, .int 0, .null])), (r0, .inl (cI, 32, .inl (fun _ => 0))), (r1, .inl (cI, 32, .inl (fun _ => 0))), (r2, .inl (cI, 32, .inl (fun _ => 0))), (r3, .inl (cI, 32, .inl (fun _ => 0))), (r4, .inl (cI, 32, .inl (fun _ => 0))), (r5, .inl (cI, 192, .inl (fun _ => 0))), (r6, .inl (cI, 32, .inl (fun _ => 0))), (r7, .inl (cI, 500, .inl (fun _ => 0))), (r8, .inl (cI, 500, .inl (fun _ => 0)))] := S
  refine W.widen (k := 9) (n := 1384) (by omega) (by omega) ?_
  refine q_arr (x := 500) (n := 500) (te := .int) (tf := (.array .int)) (t0 := 0) (kf := 19) F S hl rfl rfl rfl q_ui q_a_int (by decide) rfl (by decide) (by show _ ≤ 18; omega) (by show _ ≤ 12147; omega) (by decide) (Nat.le_of_ble_eq_true rfl) (by decide +kernel) rfl rfl (by decide +kernel) (fun _ => rfl) (fun _ => rfl) q_x6_79 (fun st h => lv_sipush F.1 F.2.1 q_x6_80 (by decide) h) q_x6_83 q_x6_85 (fun r9 H locs S => ?_)
  have S : q_S D A s H locs [(h0, .inr (6, [.int 0, .int 0, .ref r0, .ref r1, .ref r2, .ref r3, .ref r4, .ref r5, .ref r6, .long 0, .int 0, .int 0, .int 0, .int 0, .int 0, .int 0, .int 0, .ref r7, .ref r8, .ref r9, .null, .null, .null, .int 0, .int 0, .null, .null, .null, .null, .int 0, .null])), (r0, .inl (cI, 32, .inl (fun _ => 0))), (r1, .inl (cI, 32, .inl (fun _ => 0))), (r2, .inl (cI, 32, .inl (fun _ => 0))), (r3, .inl (cI, 32, .inl (fun _ => 0))), (r4, .inl (cI, 32, .inl (fun _ => 0))), (r5, .inl (cI, 192, .inl (fun _ => 0))), (r6, .inl (cI, 32, .inl (fun _ => 0))), (r7, .inl (cI, 500, .inl (fun _ => 0))), (r8, .inl (cI, 500, .inl (fun _ => 0))), (r9, .inl (cI, 500, .inl (fun _ => 0)))] := S
  refine W.widen (k := 10) (n := 1884) (by omega) (by omega) ?_
  refine q_arr (x := 10000) (n := 10000) (te := .int) (tf := (.array .int)) (t0 := 0) (kf := 20) F S hl rfl rfl rfl q_ui q_a_int (by decide) rfl (by decide) (by show _ ≤ 18; omega) (by show _ ≤ 12147; omega) (by decide) (Nat.le_of_ble_eq_true rfl) (by decide +kernel) rfl rfl (by decide +kernel) (fun _ => rfl) (fun _ => rfl) q_x6_88 (fun st h => lv_sipush F.1 F.2.1 q_x6_89 (by decide) h) q_x6_92 q_x6_94 (fun r10 H locs S => ?_)
  have S : q_S D A s H locs [(h0, .inr (6, [.int 0, .int 0, .ref r0, .ref r1, .ref r2, .ref r3, .ref r4, .ref r5, .ref r6, .long 0, .int 0, .int 0, .int 0, .int 0, .int 0, .int 0, .int 0, .ref r7, .ref r8, .ref r9, .ref r10, .null, .null, .int 0, .int 0, .null, .null, .null, .null, .int 0, .null])), (r0, .inl (cI, 32, .inl (fun _ => 0))), (r1, .inl (cI, 32, .inl (fun _ => 0))), (r2, .inl (cI, 32, .inl (fun _ => 0))), (r3, .inl (cI, 32, .inl (fun _ => 0))), (r4, .inl (cI, 32, .inl (fun _ => 0))), (r5, .inl (cI, 192, .inl (fun _ => 0))), (r6, .inl (cI, 32, .inl (fun _ => 0))), (r7, .inl (cI, 500, .inl (fun _ => 0))), (r8, .inl (cI, 500, .inl (fun _ => 0))), (r9, .inl (cI, 500, .inl (fun _ => 0))), (r10, .inl (cI, 10000, .inl (fun _ => 0)))] := S
  refine W.widen (k := 11) (n := 11884) (by omega) (by omega) ?_
  refine q_arr (x := 6) (n := 6) (te := .int) (tf := (.array .int)) (t0 := 0) (kf := 21) F S hl rfl rfl rfl q_ui q_a_int (by decide) rfl (by decide) (by show _ ≤ 18; omega) (by show _ ≤ 12147; omega) (by decide) (Nat.le_of_ble_eq_true rfl) (by decide +kernel) rfl rfl (by decide +kernel) (fun _ => rfl) (fun _ => rfl) q_x6_97 (fun st h => lv_bipush F.1 F.2.1 q_x6_98 (by decide) h) q_x6_100 q_x6_102 (fun r11 H locs S => ?_)
  have S : q_S D A s H locs [(h0, .inr (6, [.int 0, .int 0, .ref r0, .ref r1, .ref r2, .ref r3, .ref r4, .ref r5, .ref r6, .long 0, .int 0, .int 0, .int 0, .int 0, .int 0, .int 0, .int 0, .ref r7, .ref r8, .ref r9, .ref r10, .ref r11, .null, .int 0, .int 0, .null, .null, .null, .null, .int 0, .null])), (r0, .inl (cI, 32, .inl (fun _ => 0))), (r1, .inl (cI, 32, .inl (fun _ => 0))), (r2, .inl (cI, 32, .inl (fun _ => 0))), (r3, .inl (cI, 32, .inl (fun _ => 0))), (r4, .inl (cI, 32, .inl (fun _ => 0))), (r5, .inl (cI, 192, .inl (fun _ => 0))), (r6, .inl (cI, 32, .inl (fun _ => 0))), (r7, .inl (cI, 500, .inl (fun _ => 0))), (r8, .inl (cI, 500, .inl (fun _ => 0))), (r9, .inl (cI, 500, .inl (fun _ => 0))), (r10, .inl (cI, 10000, .inl (fun _ => 0))), (r11, .inl (cI, 6, .inl (fun _ => 0)))] := S
  refine W.widen (k := 12) (n := 11890) (by omega) (by omega) ?_
  refine q_arr (x := 4) (n := 4) (te := .int) (tf := (.array .int)) (t0 := 0) (kf := 22) F S hl rfl rfl rfl q_ui q_a_int (by decide) rfl (by decide) (by show _ ≤ 18; omega) (by show _ ≤ 12147; omega) (by decide) (Nat.le_of_ble_eq_true rfl) (by decide +kernel) rfl rfl (by decide +kernel) (fun _ => rfl) (fun _ => rfl) q_x6_105 (fun st h => lv_iconst F.1 F.2.1 q_x6_106 (by decide) h) q_x6_107 q_x6_109 (fun r12 H locs S => ?_)
  have S : q_S D A s H locs [(h0, .inr (6, [.int 0, .int 0, .ref r0, .ref r1, .ref r2, .ref r3, .ref r4, .ref r5, .ref r6, .long 0, .int 0, .int 0, .int 0, .int 0, .int 0, .int 0, .int 0, .ref r7, .ref r8, .ref r9, .ref r10, .ref r11, .ref r12, .int 0, .int 0, .null, .null, .null, .null, .int 0, .null])), (r0, .inl (cI, 32, .inl (fun _ => 0))), (r1, .inl (cI, 32, .inl (fun _ => 0))), (r2, .inl (cI, 32, .inl (fun _ => 0))), (r3, .inl (cI, 32, .inl (fun _ => 0))), (r4, .inl (cI, 32, .inl (fun _ => 0))), (r5, .inl (cI, 192, .inl (fun _ => 0))), (r6, .inl (cI, 32, .inl (fun _ => 0))), (r7, .inl (cI, 500, .inl (fun _ => 0))), (r8, .inl (cI, 500, .inl (fun _ => 0))), (r9, .inl (cI, 500, .inl (fun _ => 0))), (r10, .inl (cI, 10000, .inl (fun _ => 0))), (r11, .inl (cI, 6, .inl (fun _ => 0))), (r12, .inl (cI, 4, .inl (fun _ => 0)))] := S
  refine W.widen (k := 13) (n := 11894) (by omega) (by omega) ?_
  refine q_arr (x := 20) (n := 20) (te := .int) (tf := (.array .int)) (t0 := 0) (kf := 25) F S hl rfl rfl rfl q_ui q_a_int (by decide) rfl (by decide) (by show _ ≤ 18; omega) (by show _ ≤ 12147; omega) (by decide) (Nat.le_of_ble_eq_true rfl) (by decide +kernel) rfl rfl (by decide +kernel) (fun _ => rfl) (fun _ => rfl) q_x6_112 (fun st h => lv_bipush F.1 F.2.1 q_x6_113 (by decide) h) q_x6_115 q_x6_117 (fun r13 H locs S => ?_)
  have S : q_S D A s H locs [(h0, .inr (6, [.int 0, .int 0, .ref r0, .ref r1, .ref r2, .ref r3, .ref r4, .ref r5, .ref r6, .long 0, .int 0, .int 0, .int 0, .int 0, .int 0, .int 0, .int 0, .ref r7, .ref r8, .ref r9, .ref r10, .ref r11, .ref r12, .int 0, .int 0, .ref r13, .null, .null, .null, .int 0, .null])), (r0, .inl (cI, 32, .inl (fun _ => 0))), (r1, .inl (cI, 32, .inl (fun _ => 0))), (r2, .inl (cI, 32, .inl (fun _ => 0))), (r3, .inl (cI, 32, .inl (fun _ => 0))), (r4, .inl (cI, 32, .inl (fun _ => 0))), (r5, .inl (cI, 192, .inl (fun _ => 0))), (r6, .inl (cI, 32, .inl (fun _ => 0))), (r7, .inl (cI, 500, .inl (fun _ => 0))), (r8, .inl (cI, 500, .inl (fun _ => 0))), (r9, .inl (cI, 500, .inl (fun _ => 0))), (r10, .inl (cI, 10000, .inl (fun _ => 0))), (r11, .inl (cI, 6, .inl (fun _ => 0))), (r12, .inl (cI, 4, .inl (fun _ => 0))), (r13, .inl (cI, 20, .inl (fun _ => 0)))] := S
  refine W.widen (k := 14) (n := 11914) (by omega) (by omega) ?_
  refine q_arr (x := 192) (n := 192) (te := .int) (tf := (.array .int)) (t0 := 0) (kf := 26) F S hl rfl rfl rfl q_ui q_a_int (by decide) rfl (by decide) (by show _ ≤ 18; omega) (by show _ ≤ 12147; omega) (by decide) (Nat.le_of_ble_eq_true rfl) (by decide +kernel) rfl rfl (by decide +kernel) (fun _ => rfl) (fun _ => rfl) q_x6_120 (fun st h => lv_sipush F.1 F.2.1 q_x6_121 (by decide) h) q_x6_124 q_x6_126 (fun r14 H locs S => ?_)
  have S : q_S D A s H locs [(h0, .inr (6, [.int 0, .int 0, .ref r0, .ref r1, .ref r2, .ref r3, .ref r4, .ref r5, .ref r6, .long 0, .int 0, .int 0, .int 0, .int 0, .int 0, .int 0, .int 0, .ref r7, .ref r8, .ref r9, .ref r10, .ref r11, .ref r12, .int 0, .int 0, .ref r13, .ref r14, .null, .null, .int 0, .null])), (r0, .inl (cI, 32, .inl (fun _ => 0))), (r1, .inl (cI, 32, .inl (fun _ => 0))), (r2, .inl (cI, 32, .inl (fun _ => 0))), (r3, .inl (cI, 32, .inl (fun _ => 0))), (r4, .inl (cI, 32, .inl (fun _ => 0))), (r5, .inl (cI, 192, .inl (fun _ => 0))), (r6, .inl (cI, 32, .inl (fun _ => 0))), (r7, .inl (cI, 500, .inl (fun _ => 0))), (r8, .inl (cI, 500, .inl (fun _ => 0))), (r9, .inl (cI, 500, .inl (fun _ => 0))), (r10, .inl (cI, 10000, .inl (fun _ => 0))), (r11, .inl (cI, 6, .inl (fun _ => 0))), (r12, .inl (cI, 4, .inl (fun _ => 0))), (r13, .inl (cI, 20, .inl (fun _ => 0))), (r14, .inl (cI, 192, .inl (fun _ => 0)))] := S
  refine W.widen (k := 15) (n := 12106) (by omega) (by omega) ?_
  refine q_arr (x := 32) (n := 32) (te := .boolean) (tf := (.array .boolean)) (t0 := 1) (kf := 27) F S hl rfl rfl rfl q_uz q_a_boolean (by decide) rfl (by decide) (by show _ ≤ 18; omega) (by show _ ≤ 12147; omega) (by decide) (Nat.le_of_ble_eq_true rfl) (by decide +kernel) rfl rfl (by decide +kernel) (fun _ => rfl) (fun _ => rfl) q_x6_129 (fun st h => lv_bipush F.1 F.2.1 q_x6_130 (by decide) h) q_x6_132 q_x6_134 (fun r15 H locs S => ?_)
  have S : q_S D A s H locs [(h0, .inr (6, [.int 0, .int 0, .ref r0, .ref r1, .ref r2, .ref r3, .ref r4, .ref r5, .ref r6, .long 0, .int 0, .int 0, .int 0, .int 0, .int 0, .int 0, .int 0, .ref r7, .ref r8, .ref r9, .ref r10, .ref r11, .ref r12, .int 0, .int 0, .ref r13, .ref r14, .ref r15, .null, .int 0, .null])), (r0, .inl (cI, 32, .inl (fun _ => 0))), (r1, .inl (cI, 32, .inl (fun _ => 0))), (r2, .inl (cI, 32, .inl (fun _ => 0))), (r3, .inl (cI, 32, .inl (fun _ => 0))), (r4, .inl (cI, 32, .inl (fun _ => 0))), (r5, .inl (cI, 192, .inl (fun _ => 0))), (r6, .inl (cI, 32, .inl (fun _ => 0))), (r7, .inl (cI, 500, .inl (fun _ => 0))), (r8, .inl (cI, 500, .inl (fun _ => 0))), (r9, .inl (cI, 500, .inl (fun _ => 0))), (r10, .inl (cI, 10000, .inl (fun _ => 0))), (r11, .inl (cI, 6, .inl (fun _ => 0))), (r12, .inl (cI, 4, .inl (fun _ => 0))), (r13, .inl (cI, 20, .inl (fun _ => 0))), (r14, .inl (cI, 192, .inl (fun _ => 0))), (r15, .inl (cZ, 32, .inl (fun _ => 0)))] := S
  refine W.widen (k := 16) (n := 12138) (by omega) (by omega) ?_
  refine q_arr (x := 3) (n := 3) (te := .int) (tf := (.array .int)) (t0 := 0) (kf := 28) F S hl rfl rfl rfl q_ui q_a_int (by decide) rfl (by decide) (by show _ ≤ 18; omega) (by show _ ≤ 12147; omega) (by decide) (Nat.le_of_ble_eq_true rfl) (by decide +kernel) rfl rfl (by decide +kernel) (fun _ => rfl) (fun _ => rfl) q_x6_137 (fun st h => lv_iconst F.1 F.2.1 q_x6_138 (by decide) h) q_x6_139 q_x6_141 (fun r16 H locs S => ?_)
  have S : q_S D A s H locs [(h0, .inr (6, [.int 0, .int 0, .ref r0, .ref r1, .ref r2, .ref r3, .ref r4, .ref r5, .ref r6, .long 0, .int 0, .int 0, .int 0, .int 0, .int 0, .int 0, .int 0, .ref r7, .ref r8, .ref r9, .ref r10, .ref r11, .ref r12, .int 0, .int 0, .ref r13, .ref r14, .ref r15, .ref r16, .int 0, .null])), (r0, .inl (cI, 32, .inl (fun _ => 0))), (r1, .inl (cI, 32, .inl (fun _ => 0))), (r2, .inl (cI, 32, .inl (fun _ => 0))), (r3, .inl (cI, 32, .inl (fun _ => 0))), (r4, .inl (cI, 32, .inl (fun _ => 0))), (r5, .inl (cI, 192, .inl (fun _ => 0))), (r6, .inl (cI, 32, .inl (fun _ => 0))), (r7, .inl (cI, 500, .inl (fun _ => 0))), (r8, .inl (cI, 500, .inl (fun _ => 0))), (r9, .inl (cI, 500, .inl (fun _ => 0))), (r10, .inl (cI, 10000, .inl (fun _ => 0))), (r11, .inl (cI, 6, .inl (fun _ => 0))), (r12, .inl (cI, 4, .inl (fun _ => 0))), (r13, .inl (cI, 20, .inl (fun _ => 0))), (r14, .inl (cI, 192, .inl (fun _ => 0))), (r15, .inl (cZ, 32, .inl (fun _ => 0))), (r16, .inl (cI, 3, .inl (fun _ => 0)))] := S
  refine W.widen (k := 17) (n := 12141) (by omega) (by omega) ?_
  refine q_arr (x := 6) (n := 6) (te := .int) (tf := (.array .int)) (t0 := 0) (kf := 30) F S hl rfl rfl rfl q_ui q_a_int (by decide) rfl (by decide) (by show _ ≤ 18; omega) (by show _ ≤ 12147; omega) (by decide) (Nat.le_of_ble_eq_true rfl) (by decide +kernel) rfl rfl (by decide +kernel) (fun _ => rfl) (fun _ => rfl) q_x6_144 (fun st h => lv_bipush F.1 F.2.1 q_x6_145 (by decide) h) q_x6_147 q_x6_149 (fun r17 H locs S => ?_)
  have S : q_S D A s H locs [(h0, .inr (6, [.int 0, .int 0, .ref r0, .ref r1, .ref r2, .ref r3, .ref r4, .ref r5, .ref r6, .long 0, .int 0, .int 0, .int 0, .int 0, .int 0, .int 0, .int 0, .ref r7, .ref r8, .ref r9, .ref r10, .ref r11, .ref r12, .int 0, .int 0, .ref r13, .ref r14, .ref r15, .ref r16, .int 0, .ref r17])), (r0, .inl (cI, 32, .inl (fun _ => 0))), (r1, .inl (cI, 32, .inl (fun _ => 0))), (r2, .inl (cI, 32, .inl (fun _ => 0))), (r3, .inl (cI, 32, .inl (fun _ => 0))), (r4, .inl (cI, 32, .inl (fun _ => 0))), (r5, .inl (cI, 192, .inl (fun _ => 0))), (r6, .inl (cI, 32, .inl (fun _ => 0))), (r7, .inl (cI, 500, .inl (fun _ => 0))), (r8, .inl (cI, 500, .inl (fun _ => 0))), (r9, .inl (cI, 500, .inl (fun _ => 0))), (r10, .inl (cI, 10000, .inl (fun _ => 0))), (r11, .inl (cI, 6, .inl (fun _ => 0))), (r12, .inl (cI, 4, .inl (fun _ => 0))), (r13, .inl (cI, 20, .inl (fun _ => 0))), (r14, .inl (cI, 192, .inl (fun _ => 0))), (r15, .inl (cZ, 32, .inl (fun _ => 0))), (r16, .inl (cI, 3, .inl (fun _ => 0))), (r17, .inl (cI, 6, .inl (fun _ => 0)))] := S
  refine W.widen (k := 18) (n := 12147) (by omega) (by omega) ?_
  obtain ⟨hP, hD, hS⟩ := S
  exact W.vret F.1 F.2.1 hr (fun t ht hW => ⟨⟨q_u [r0, r1, r2, r3, r4, r5, r6, r7, r8, r9, r10, r11, r12, r13, r14, r15, r16, r17], rfl, trivial, by rw [ht]; exact hP, va_K.moved hW.alike hK, hD⟩, hS.F ht⟩) hS.2.2 q_x6_152
abbrev q_w1 (cI cZ : ClassId) (h0 p1 p2 : Nat) (u : Nat → Nat) : va_W := [(h0, .inr (1, [.ref p1, .ref p2, .ref (u 5), .ref (u 6), .ref (u 7), .int 0, .int 0, .int 0, .int 4, .int 0, .int 0, .int (-3)])), (u 5, .inr (0, [.ref (u 0), .ref (u 1), .ref (u 2), .ref (u 3), .ref (u 4), .int 0])), (u 0, .inl (cI, 40, .inl (fun _ => 0))), (u 1, .inl (cI, 40, .inl (fun _ => 0))), (u 2, .inl (cI, 40, .inl (fun _ => 0))), (u 3, .inl (cI, 800, .inl (fun _ => 0))), (u 4, .inl (cI, 20, .inl (fun _ => 0))), (u 6, .inl (cI, 6, .inl (fun _ => 0))), (u 7, .inl (cI, 4, .inl (fun _ => 0)))]
set_option maxHeartbeats 4000000 in
set_option maxRecDepth 100000 in
theorem c_X1_init (l : Launch) (D : va_G) (cI cZ : ClassId) (h0 p1 p2 sz : Nat) : Met l yX1_init (q_k1 :: m_gws) ({ frames := 2, cells := 8, slots := 956, locals := 32 }) (q_Pc D cI cZ [.ref h0, .ref p1, .ref p2] [(h0, .inr (1, q_f1))] sz (fun U => va_Nw (.methodLinkNest RX1 11 yX0_init "NullKinds") U)) (q_Qc D cI cZ (q_w1 cI cZ h0 p1 p2) (va_A [(h0, .inr (1, q_f1))] sz)) 8 956 (va_A [(h0, .inr (1, q_f1))] sz) := by
  refine Met.ofW (cc := cX1_init) (maxL := 3) (ret := none) (by decide) rfl ?_
  intro p e s m args below meth c s₁ B hml hv
  obtain ⟨rfl, hsz, hP, hK, hD0, hN⟩ := hv
  have hr := B.returns
  have hown : s.vm.findClass RX1 = some m.cls := findClass_of_methodNamed B.named
  have hin : meth.name = "<init>" := (name_of_methodNamed B.named B.method).1
  subst hsz
  have hD := hD0.self (sz := s.heap.size)
  generalize hAe : va_A [(h0, .inr (1, q_f1))] s.heap.size = A at hD ⊢
  have hA : ∀ q : Nat, s.heap.size ≤ q → A q := fun q h => by rw [← hAe]; exact Or.inr h
  have F : q_F p s m ([.ref h0, .ref p1, .ref p2] : List Value).toArray meth c cX1_init q_k1 D cI cZ A 1 := ⟨B.exec, B.bytes, atoms_spec (ws := q_k1 :: m_gws) B.pre, hown, hin, hK, hA, by decide⟩
  have hl := lv_entry ([.ref h0, .ref p1, .ref p2]) (n := 3) (Nat.le_of_ble_eq_true rfl)
  rw [lg_entry_eq]
  generalize (lg_sl ([.ref h0, .ref p1, .ref p2]) ++ List.replicate (3 - (lg_sl ([.ref h0, .ref p1, .ref p2])).length) Slot.unset).toArray = ls at hl ⊢
  have hl : lv_has ls 3 [(0, .ref h0), (1, .ref p1), (2, .ref p2)] := hl
  refine q_obj F hml hl q_oi1 q_iw q_cw (by show 1 ≤ 2; decide) (by show 12 ≤ 32; decide) q_x1_0 q_x1_1 ?_
  have S : q_S D A s s.heap [] [(h0, .inr (1, q_f1))] := ⟨hP, hD, va_S.rf⟩
  refine lv_aload_n F.1 F.2.1 q_x1_4 rfl (lv_at hl 0 rfl) ?_
  obtain ⟨hP, hD, hS⟩ := S
  refine va_new (ci := 0) (fs := q_f0) (C := RX0) (T := TX0) (N := 6) F.1 F.2.1 F.2.2.1 (fun w hw => List.mem_cons_of_mem _ (m_uws (c := 0) (by decide) w hw)) (m_ty 0) (m_tyok (c := 0) (by decide)) F.2.2.2.1 (F.2.2.1 (.classLink RX1 9 RX0) (List.mem_cons_of_mem _ (m_gw_in (k := 146) (by decide +kernel)))) (F.2.2.1 _ (List.mem_cons_of_mem _ q_is0)) (F.2.2.1 _ (List.mem_cons_of_mem _ q_in0)) hK hP hD hS hA rfl q_d0 (by show _ ≤ 8; omega) (by show _ ≤ 956; omega) q_x1_5 (fun b0 H hP hD hS => ?_)
  have hP : va_P D vwCl [(h0, .inr (1, [.null, .null, .null, .null, .null, .int 0, .int 0, .int 0, .int 0, .int 0, .int 0, .int 0])), (b0, .inr (0, q_f0))] H := hP
  have hD : va_D A [(h0, .inr (1, [.null, .null, .null, .null, .null, .int 0, .int 0, .int 0, .int 0, .int 0, .int 0, .int 0])), (b0, .inr (0, q_f0))] := hD
  refine W.widen (k := 1) (n := 6) (by omega) (by omega) ?_
  refine lv_dup F.1 F.2.1 q_x1_8 rfl ?_
  have hPc := hP.sub (ws' := [(b0, .inr (0, q_f0))]) [1] rfl
  have hDc := hD.sub (ws' := [(b0, .inr (0, q_f0))]) [1] (by decide) rfl
  have hFc := va_free (wc := [(b0, .inr (0, q_f0))]) hD hS hA [1] rfl
  refine va_callv (va_runIN (As := []) (rest := [.ref b0, .ref h0]) ⟨F.1, F.2.1, hml, F.2.2.2.1, F.2.2.1⟩ (c_X0_init l D cI cZ b0 H.size) ⟨va_cnB (index := 11) (host := "NullKinds") 0 F.2.2.1 (jgood (jallc q_kw0 jself)) rfl rfl rfl hN (F.2.2.1 _ (List.mem_cons_of_mem _ q_in0)) ⟨by decide +kernel, by decide +kernel, by decide +kernel⟩ ⟨Nat.le_of_ble_eq_true rfl, Nat.le_of_ble_eq_true rfl⟩, rfl, F.2.2.1 _ (List.mem_cons_of_mem _ q_im0)⟩ ⟨q_blind (fun _ _ _ h => h), fun U hU hW => ⟨rfl, by rw [hU], by rw [hU]; exact hPc, va_K.moved hW.alike hK, hDc.weaken (fun _ _ _ _ => trivial), trivial⟩⟩ rfl rfl hl.1 rfl (lv_room (Nat.le_of_ble_eq_true rfl)) q_x1_9 ⟨by show _ ≤ 8; omega, by show _ ≤ 956; omega⟩) hS (fun q _ h => hFc q h) hFc (fun u0 t H1 locs ht hvm _ hB hz1 hk1 hS => ?_)
  obtain ⟨hP1, hK1, hD1⟩ := hB
  rw [ht] at hP1
  obtain ⟨hP, hD⟩ := va_join (wr := [(h0, .inr (1, [.null, .null, .null, .null, .null, .int 0, .int 0, .int 0, .int 0, .int 0, .int 0, .int 0]))]) (w1 := [(b0, .inr (0, [.ref (u0 0), .ref (u0 1), .ref (u0 2), .ref (u0 3), .ref (u0 4), .int 0])), (u0 0, .inl (cI, 40, .inl (fun _ => 0))), (u0 1, .inl (cI, 40, .inl (fun _ => 0))), (u0 2, .inl (cI, 40, .inl (fun _ => 0))), (u0 3, .inl (cI, 800, .inl (fun _ => 0))), (u0 4, .inl (cI, 20, .inl (fun _ => 0)))]) hP hD [1] [0] rfl rfl (by decide) (by decide) hk1 hFc hP1 hD1
  have S : q_S D A s H1 locs [(h0, .inr (1, [.null, .null, .null, .null, .null, .int 0, .int 0, .int 0, .int 0, .int 0, .int 0, .int 0])), (b0, .inr (0, [.ref (u0 0), .ref (u0 1), .ref (u0 2), .ref (u0 3), .ref (u0 4), .int 0])), (u0 0, .inl (cI, 40, .inl (fun _ => 0))), (u0 1, .inl (cI, 40, .inl (fun _ => 0))), (u0 2, .inl (cI, 40, .inl (fun _ => 0))), (u0 3, .inl (cI, 800, .inl (fun _ => 0))), (u0 4, .inl (cI, 20, .inl (fun _ => 0)))] := ⟨hP, hD, hS⟩
  refine W.widen (k := 6) (n := 946) (by omega) (by omega) ?_
  refine q_top (tf := (.object "NullKinds$Heap")) (kf := 2) F S (by decide) (Nat.le_of_ble_eq_true rfl) (by decide +kernel) rfl rfl (by decide +kernel) rfl rfl q_x1_12 (fun H locs S => ?_)
  have S : q_S D A s H locs [(h0, .inr (1, [.null, .null, .ref b0, .null, .null, .int 0, .int 0, .int 0, .int 0, .int 0, .int 0, .int 0])), (b0, .inr (0, [.ref (u0 0), .ref (u0 1), .ref (u0 2), .ref (u0 3), .ref (u0 4), .int 0])), (u0 0, .inl (cI, 40, .inl (fun _ => 0))), (u0 1, .inl (cI, 40, .inl (fun _ => 0))), (u0 2, .inl (cI, 40, .inl (fun _ => 0))), (u0 3, .inl (cI, 800, .inl (fun _ => 0))), (u0 4, .inl (cI, 20, .inl (fun _ => 0)))] := S
  refine q_arr (x := 6) (n := 6) (te := .int) (tf := (.array .int)) (t0 := 0) (kf := 3) F S hl rfl rfl rfl q_ui q_a_int (by decide) rfl (by decide) (by show _ ≤ 8; omega) (by show _ ≤ 956; omega) (by decide) (Nat.le_of_ble_eq_true rfl) (by decide +kernel) rfl rfl (by decide +kernel) (fun _ => rfl) (fun _ => rfl) q_x1_15 (fun st h => lv_bipush F.1 F.2.1 q_x1_16 (by decide) h) q_x1_18 q_x1_20 (fun r6 H locs S => ?_)
  have S : q_S D A s H locs [(h0, .inr (1, [.null, .null, .ref b0, .ref r6, .null, .int 0, .int 0, .int 0, .int 0, .int 0, .int 0, .int 0])), (b0, .inr (0, [.ref (u0 0), .ref (u0 1), .ref (u0 2), .ref (u0 3), .ref (u0 4), .int 0])), (u0 0, .inl (cI, 40, .inl (fun _ => 0))), (u0 1, .inl (cI, 40, .inl (fun _ => 0))), (u0 2, .inl (cI, 40, .inl (fun _ => 0))), (u0 3, .inl (cI, 800, .inl (fun _ => 0))), (u0 4, .inl (cI, 20, .inl (fun _ => 0))), (r6, .inl (cI, 6, .inl (fun _ => 0)))] := S
  refine W.widen (k := 7) (n := 952) (by omega) (by omega) ?_
  refine q_arr (x := 4) (n := 4) (te := .int) (tf := (.array .int)) (t0 := 0) (kf := 4) F S hl rfl rfl rfl q_ui q_a_int (by decide) rfl (by decide) (by show _ ≤ 8; omega) (by show _ ≤ 956; omega) (by decide) (Nat.le_of_ble_eq_true rfl) (by decide +kernel) rfl rfl (by decide +kernel) (fun _ => rfl) (fun _ => rfl) q_x1_23 (fun st h => lv_iconst F.1 F.2.1 q_x1_24 (by decide) h) q_x1_25 q_x1_27 (fun r7 H locs S => ?_)
  have S : q_S D A s H locs [(h0, .inr (1, [.null, .null, .ref b0, .ref r6, .ref r7, .int 0, .int 0, .int 0, .int 0, .int 0, .int 0, .int 0])), (b0, .inr (0, [.ref (u0 0), .ref (u0 1), .ref (u0 2), .ref (u0 3), .ref (u0 4), .int 0])), (u0 0, .inl (cI, 40, .inl (fun _ => 0))), (u0 1, .inl (cI, 40, .inl (fun _ => 0))), (u0 2, .inl (cI, 40, .inl (fun _ => 0))), (u0 3, .inl (cI, 800, .inl (fun _ => 0))), (u0 4, .inl (cI, 20, .inl (fun _ => 0))), (r6, .inl (cI, 6, .inl (fun _ => 0))), (r7, .inl (cI, 4, .inl (fun _ => 0)))] := S
  refine W.widen (k := 8) (n := 956) (by omega) (by omega) ?_
  refine q_int (x := 0) (tf := .int) (kf := 5) F S hl (by decide) (Nat.le_of_ble_eq_true rfl) (by decide +kernel) rfl (by decide +kernel) rfl rfl q_x1_30 (fun st h => lv_iconst F.1 F.2.1 q_x1_31 (by decide) h) q_x1_32 (fun H locs S => ?_)
  have S : q_S D A s H locs [(h0, .inr (1, [.null, .null, .ref b0, .ref r6, .ref r7, .int 0, .int 0, .int 0, .int 0, .int 0, .int 0, .int 0])), (b0, .inr (0, [.ref (u0 0), .ref (u0 1), .ref (u0 2), .ref (u0 3), .ref (u0 4), .int 0])), (u0 0, .inl (cI, 40, .inl (fun _ => 0))), (u0 1, .inl (cI, 40, .inl (fun _ => 0))), (u0 2, .inl (cI, 40, .inl (fun _ => 0))), (u0 3, .inl (cI, 800, .inl (fun _ => 0))), (u0 4, .inl (cI, 20, .inl (fun _ => 0))), (r6, .inl (cI, 6, .inl (fun _ => 0))), (r7, .inl (cI, 4, .inl (fun _ => 0)))] := S
  refine q_int (x := 0) (tf := .int) (kf := 6) F S hl (by decide) (Nat.le_of_ble_eq_true rfl) (by decide +kernel) rfl (by decide +kernel) rfl rfl q_x1_35 (fun st h => lv_iconst F.1 F.2.1 q_x1_36 (by decide) h) q_x1_37 (fun H locs S => ?_)
  have S : q_S D A s H locs [(h0, .inr (1, [.null, .null, .ref b0, .ref r6, .ref r7, .int 0, .int 0, .int 0, .int 0, .int 0, .int 0, .int 0])), (b0, .inr (0, [.ref (u0 0), .ref (u0 1), .ref (u0 2), .ref (u0 3), .ref (u0 4), .int 0])), (u0 0, .inl (cI, 40, .inl (fun _ => 0))), (u0 1, .inl (cI, 40, .inl (fun _ => 0))), (u0 2, .inl (cI, 40, .inl (fun _ => 0))), (u0 3, .inl (cI, 800, .inl (fun _ => 0))), (u0 4, .inl (cI, 20, .inl (fun _ => 0))), (r6, .inl (cI, 6, .inl (fun _ => 0))), (r7, .inl (cI, 4, .inl (fun _ => 0)))] := S
  refine q_int (x := 0) (tf := .int) (kf := 7) F S hl (by decide) (Nat.le_of_ble_eq_true rfl) (by decide +kernel) rfl (by decide +kernel) rfl rfl q_x1_40 (fun st h => lv_iconst F.1 F.2.1 q_x1_41 (by decide) h) q_x1_42 (fun H locs S => ?_)
  have S : q_S D A s H locs [(h0, .inr (1, [.null, .null, .ref b0, .ref r6, .ref r7, .int 0, .int 0, .int 0, .int 0, .int 0, .int 0, .int 0])), (b0, .inr (0, [.ref (u0 0), .ref (u0 1), .ref (u0 2), .ref (u0 3), .ref (u0 4), .int 0])), (u0 0, .inl (cI, 40, .inl (fun _ => 0))), (u0 1, .inl (cI, 40, .inl (fun _ => 0))), (u0 2, .inl (cI, 40, .inl (fun _ => 0))), (u0 3, .inl (cI, 800, .inl (fun _ => 0))), (u0 4, .inl (cI, 20, .inl (fun _ => 0))), (r6, .inl (cI, 6, .inl (fun _ => 0))), (r7, .inl (cI, 4, .inl (fun _ => 0)))] := S
  refine q_int (x := 4) (tf := .int) (kf := 8) F S hl (by decide) (Nat.le_of_ble_eq_true rfl) (by decide +kernel) rfl (by decide +kernel) rfl rfl q_x1_45 (fun st h => lv_iconst F.1 F.2.1 q_x1_46 (by decide) h) q_x1_47 (fun H locs S => ?_)
  have S : q_S D A s H locs [(h0, .inr (1, [.null, .null, .ref b0, .ref r6, .ref r7, .int 0, .int 0, .int 0, .int 4, .int 0, .int 0, .int 0])), (b0, .inr (0, [.ref (u0 0), .ref (u0 1), .ref (u0 2), .ref (u0 3), .ref (u0 4), .int 0])), (u0 0, .inl (cI, 40, .inl (fun _ => 0))), (u0 1, .inl (cI, 40, .inl (fun _ => 0))), (u0 2, .inl (cI, 40, .inl (fun _ => 0))), (u0 3, .inl (cI, 800, .inl (fun _ => 0))), (u0 4, .inl (cI, 20, .inl (fun _ => 0))), (r6, .inl (cI, 6, .inl (fun _ => 0))), (r7, .inl (cI, 4, .inl (fun _ => 0)))] := S
  refine q_int (x := 0) (tf := .int) (kf := 9) F S hl (by decide) (Nat.le_of_ble_eq_true rfl) (by decide +kernel) rfl (by decide +kernel) rfl rfl q_x1_50 (fun st h => lv_iconst F.1 F.2.1 q_x1_51 (by decide) h) q_x1_52 (fun H locs S => ?_)
  have S : q_S D A s H locs [(h0, .inr (1, [.null, .null, .ref b0, .ref r6, .ref r7, .int 0, .int 0, .int 0, .int 4, .int 0, .int 0, .int 0])), (b0, .inr (0, [.ref (u0 0), .ref (u0 1), .ref (u0 2), .ref (u0 3), .ref (u0 4), .int 0])), (u0 0, .inl (cI, 40, .inl (fun _ => 0))), (u0 1, .inl (cI, 40, .inl (fun _ => 0))), (u0 2, .inl (cI, 40, .inl (fun _ => 0))), (u0 3, .inl (cI, 800, .inl (fun _ => 0))), (u0 4, .inl (cI, 20, .inl (fun _ => 0))), (r6, .inl (cI, 6, .inl (fun _ => 0))), (r7, .inl (cI, 4, .inl (fun _ => 0)))] := S
  refine q_int (x := 0) (tf := .int) (kf := 10) F S hl (by decide) (Nat.le_of_ble_eq_true rfl) (by decide +kernel) rfl (by decide +kernel) rfl rfl q_x1_55 (fun st h => lv_iconst F.1 F.2.1 q_x1_56 (by decide) h) q_x1_57 (fun H locs S => ?_)
  have S : q_S D A s H locs [(h0, .inr (1, [.null, .null, .ref b0, .ref r6, .ref r7, .int 0, .int 0, .int 0, .int 4, .int 0, .int 0, .int 0])), (b0, .inr (0, [.ref (u0 0), .ref (u0 1), .ref (u0 2), .ref (u0 3), .ref (u0 4), .int 0])), (u0 0, .inl (cI, 40, .inl (fun _ => 0))), (u0 1, .inl (cI, 40, .inl (fun _ => 0))), (u0 2, .inl (cI, 40, .inl (fun _ => 0))), (u0 3, .inl (cI, 800, .inl (fun _ => 0))), (u0 4, .inl (cI, 20, .inl (fun _ => 0))), (r6, .inl (cI, 6, .inl (fun _ => 0))), (r7, .inl (cI, 4, .inl (fun _ => 0)))] := S
  refine q_int (x := (-3)) (tf := .int) (kf := 11) F S hl (by decide) (Nat.le_of_ble_eq_true rfl) (by decide +kernel) rfl (by decide +kernel) rfl rfl q_x1_60 (fun st h => lv_bipush F.1 F.2.1 q_x1_61 (by decide) h) q_x1_63 (fun H locs S => ?_)
  have S : q_S D A s H locs [(h0, .inr (1, [.null, .null, .ref b0, .ref r6, .ref r7, .int 0, .int 0, .int 0, .int 4, .int 0, .int 0, .int (-3)])), (b0, .inr (0, [.ref (u0 0), .ref (u0 1), .ref (u0 2), .ref (u0 3), .ref (u0 4), .int 0])), (u0 0, .inl (cI, 40, .inl (fun _ => 0))), (u0 1, .inl (cI, 40, .inl (fun _ => 0))), (u0 2, .inl (cI, 40, .inl (fun _ => 0))), (u0 3, .inl (cI, 800, .inl (fun _ => 0))), (u0 4, .inl (cI, 20, .inl (fun _ => 0))), (r6, .inl (cI, 6, .inl (fun _ => 0))), (r7, .inl (cI, 4, .inl (fun _ => 0)))] := S
  refine lv_aload_n F.1 F.2.1 q_x1_66 rfl (lv_at hl 0 rfl) ?_
  refine lv_aload_n F.1 F.2.1 q_x1_67 rfl (lv_at hl 1 rfl) ?_
  refine q_top (tf := (.object "NullKinds$Program")) (kf := 0) F S (by decide) (Nat.le_of_ble_eq_true rfl) (by decide +kernel) rfl rfl (by decide +kernel) rfl rfl q_x1_68 (fun H locs S => ?_)
  have S : q_S D A s H locs [(h0, .inr (1, [.ref p1, .null, .ref b0, .ref r6, .ref r7, .int 0, .int 0, .int 0, .int 4, .int 0, .int 0, .int (-3)])), (b0, .inr (0, [.ref (u0 0), .ref (u0 1), .ref (u0 2), .ref (u0 3), .ref (u0 4), .int 0])), (u0 0, .inl (cI, 40, .inl (fun _ => 0))), (u0 1, .inl (cI, 40, .inl (fun _ => 0))), (u0 2, .inl (cI, 40, .inl (fun _ => 0))), (u0 3, .inl (cI, 800, .inl (fun _ => 0))), (u0 4, .inl (cI, 20, .inl (fun _ => 0))), (r6, .inl (cI, 6, .inl (fun _ => 0))), (r7, .inl (cI, 4, .inl (fun _ => 0)))] := S
  refine lv_aload_n F.1 F.2.1 q_x1_71 rfl (lv_at hl 0 rfl) ?_
  refine lv_aload_n F.1 F.2.1 q_x1_72 rfl (lv_at hl 2 rfl) ?_
  refine q_top (tf := (.object "NullKinds$Watch")) (kf := 1) F S (by decide) (Nat.le_of_ble_eq_true rfl) (by decide +kernel) rfl rfl (by decide +kernel) rfl rfl q_x1_73 (fun H locs S => ?_)
  have S : q_S D A s H locs [(h0, .inr (1, [.ref p1, .ref p2, .ref b0, .ref r6, .ref r7, .int 0, .int 0, .int 0, .int 4, .int 0, .int 0, .int (-3)])), (b0, .inr (0, [.ref (u0 0), .ref (u0 1), .ref (u0 2), .ref (u0 3), .ref (u0 4), .int 0])), (u0 0, .inl (cI, 40, .inl (fun _ => 0))), (u0 1, .inl (cI, 40, .inl (fun _ => 0))), (u0 2, .inl (cI, 40, .inl (fun _ => 0))), (u0 3, .inl (cI, 800, .inl (fun _ => 0))), (u0 4, .inl (cI, 20, .inl (fun _ => 0))), (r6, .inl (cI, 6, .inl (fun _ => 0))), (r7, .inl (cI, 4, .inl (fun _ => 0)))] := S
  obtain ⟨hP, hD, hS⟩ := S
  exact W.vret F.1 F.2.1 hr (fun t ht hW => ⟨⟨q_u [u0 0, u0 1, u0 2, u0 3, u0 4, b0, r6, r7], rfl, trivial, by rw [ht]; exact hP, va_K.moved hW.alike hK, hD⟩, hS.F ht⟩) hS.2.2 q_x1_76
abbrev q_w5 (cI cZ : ClassId) (h0 : Nat) (u : Nat → Nat) : va_W := [(h0, .inr (5, [.ref (u 5), .ref (u 8), .ref (u 17), .ref (u 21)])), (u 5, .inr (3, [.ref (u 0), .ref (u 1), .ref (u 2), .ref (u 3), .ref (u 4), .int 0])), (u 0, .inl (cI, 32, .inl (fun _ => 0))), (u 1, .inl (cI, 32, .inl (fun _ => 0))), (u 2, .inl (cI, 32, .inl (fun _ => 0))), (u 3, .inl (cI, 32, .inl (fun _ => 0))), (u 4, .inl (cI, 32, .inl (fun _ => 0))), (u 8, .inr (4, [.ref (u 6), .ref (u 7), .int 0, .int 0])), (u 6, .inl (cI, 192, .inl (fun _ => 0))), (u 7, .inl (cI, 32, .inl (fun _ => 0))), (u 17, .inr (1, [.ref (u 5), .ref (u 8), .ref (u 14), .ref (u 15), .ref (u 16), .int 0, .int 0, .int 0, .int 4, .int 0, .int 0, .int (-3)])), (u 14, .inr (0, [.ref (u 9), .ref (u 10), .ref (u 11), .ref (u 12), .ref (u 13), .int 0])), (u 9, .inl (cI, 40, .inl (fun _ => 0))), (u 10, .inl (cI, 40, .inl (fun _ => 0))), (u 11, .inl (cI, 40, .inl (fun _ => 0))), (u 12, .inl (cI, 800, .inl (fun _ => 0))), (u 13, .inl (cI, 20, .inl (fun _ => 0))), (u 15, .inl (cI, 6, .inl (fun _ => 0))), (u 16, .inl (cI, 4, .inl (fun _ => 0))), (u 21, .inr (2, [.ref (u 5), .ref (u 18), .ref (u 19), .ref (u 20), .int 0, .int 0, .int 0])), (u 18, .inl (cI, 192, .inl (fun _ => 0))), (u 19, .inl (cI, 3, .inl (fun _ => 0))), (u 20, .inl (cI, 6, .inl (fun _ => 0)))]
set_option maxHeartbeats 4000000 in
set_option maxRecDepth 100000 in
theorem c_X5_init (l : Launch) (D : va_G) (cI cZ : ClassId) (h0 sz : Nat) : Met l yX5_init (q_k5 :: m_gws) ({ frames := 3, cells := 22, slots := 1570, locals := 54 }) (q_Pc D cI cZ [.ref h0] [(h0, .inr (5, q_f5))] sz (fun U => va_Nw (.methodLinkNest RX5 11 yX3_init "NullKinds") U ∧ va_Nw (.methodLinkNest RX5 20 yX4_init "NullKinds") U ∧ va_Nw (.methodLinkNest RX1 11 yX0_init "NullKinds") U)) (q_Qc D cI cZ (q_w5 cI cZ h0) (va_A [(h0, .inr (5, q_f5))] sz)) 22 1570 (va_A [(h0, .inr (5, q_f5))] sz) := by
  refine Met.ofW (cc := cX5_init) (maxL := 1) (ret := none) (by decide) rfl ?_
  intro p e s m args below meth c s₁ B hml hv
  obtain ⟨rfl, hsz, hP, hK, hD0, hN⟩ := hv
  have hr := B.returns
  have hown : s.vm.findClass RX5 = some m.cls := findClass_of_methodNamed B.named
  have hin : meth.name = "<init>" := (name_of_methodNamed B.named B.method).1
  subst hsz
  have hD := hD0.self (sz := s.heap.size)
  generalize hAe : va_A [(h0, .inr (5, q_f5))] s.heap.size = A at hD ⊢
  have hA : ∀ q : Nat, s.heap.size ≤ q → A q := fun q h => by rw [← hAe]; exact Or.inr h
  have F : q_F p s m ([.ref h0] : List Value).toArray meth c cX5_init q_k5 D cI cZ A 5 := ⟨B.exec, B.bytes, atoms_spec (ws := q_k5 :: m_gws) B.pre, hown, hin, hK, hA, by decide⟩
  have hl := lv_entry ([.ref h0]) (n := 1) (Nat.le_of_ble_eq_true rfl)
  rw [lg_entry_eq]
  generalize (lg_sl ([.ref h0]) ++ List.replicate (1 - (lg_sl ([.ref h0])).length) Slot.unset).toArray = ls at hl ⊢
  have hl : lv_has ls 1 [(0, .ref h0)] := hl
  refine q_obj F hml hl q_oi5 q_iw q_cw (by show 1 ≤ 3; decide) (by show 12 ≤ 54; decide) q_x5_0 q_x5_1 ?_
  have S : q_S D A s s.heap [] [(h0, .inr (5, q_f5))] := ⟨hP, hD, va_S.rf⟩
  refine lv_aload_n F.1 F.2.1 q_x5_4 rfl (lv_at hl 0 rfl) ?_
  obtain ⟨hP, hD, hS⟩ := S
  refine va_new (ci := 3) (fs := q_f3) (C := RX3) (T := TX3) (N := 6) F.1 F.2.1 F.2.2.1 (fun w hw => List.mem_cons_of_mem _ (m_uws (c := 3) (by decide) w hw)) (m_ty 3) (m_tyok (c := 3) (by decide)) F.2.2.2.1 (F.2.2.1 (.classLink RX5 9 RX3) (List.mem_cons_of_mem _ (m_gw_in (k := 85) (by decide +kernel)))) (F.2.2.1 _ (List.mem_cons_of_mem _ q_is3)) (F.2.2.1 _ (List.mem_cons_of_mem _ q_in3)) hK hP hD hS hA rfl q_d3 (by show _ ≤ 22; omega) (by show _ ≤ 1570; omega) q_x5_5 (fun b3 H hP hD hS => ?_)
  have hP : va_P D vwCl [(h0, .inr (5, [.null, .null, .null, .null])), (b3, .inr (3, q_f3))] H := hP
  have hD : va_D A [(h0, .inr (5, [.null, .null, .null, .null])), (b3, .inr (3, q_f3))] := hD
  refine W.widen (k := 1) (n := 6) (by omega) (by omega) ?_
  refine lv_dup F.1 F.2.1 q_x5_8 rfl ?_
  have hPc := hP.sub (ws' := [(b3, .inr (3, q_f3))]) [1] rfl
  have hDc := hD.sub (ws' := [(b3, .inr (3, q_f3))]) [1] (by decide) rfl
  have hFc := va_free (wc := [(b3, .inr (3, q_f3))]) hD hS hA [1] rfl
  refine va_callv (va_runIN (As := []) (rest := [.ref b3, .ref h0]) ⟨F.1, F.2.1, hml, F.2.2.2.1, F.2.2.1⟩ (c_X3_init l D cI cZ b3 H.size) ⟨va_cnB (index := 11) (host := "NullKinds") 0 F.2.2.1 (jgood (jallc q_kw3 jself)) rfl rfl rfl hN.1 (F.2.2.1 _ (List.mem_cons_of_mem _ q_in3)) ⟨by decide +kernel, by decide +kernel, by decide +kernel⟩ ⟨Nat.le_of_ble_eq_true rfl, Nat.le_of_ble_eq_true rfl⟩, rfl, F.2.2.1 _ (List.mem_cons_of_mem _ q_im3)⟩ ⟨q_blind (fun _ _ _ h => h), fun U hU hW => ⟨rfl, by rw [hU], by rw [hU]; exact hPc, va_K.moved hW.alike hK, hDc.weaken (fun _ _ _ _ => trivial), trivial⟩⟩ rfl rfl hl.1 rfl (lv_room (Nat.le_of_ble_eq_true rfl)) q_x5_9 ⟨by show _ ≤ 22; omega, by show _ ≤ 1570; omega⟩) hS (fun q _ h => hFc q h) hFc (fun u3 t H1 locs ht hvm _ hB hz1 hk1 hS => ?_)
  obtain ⟨hP1, hK1, hD1⟩ := hB
  rw [ht] at hP1
  obtain ⟨hP, hD⟩ := va_join (wr := [(h0, .inr (5, [.null, .null, .null, .null]))]) (w1 := [(b3, .inr (3, [.ref (u3 0), .ref (u3 1), .ref (u3 2), .ref (u3 3), .ref (u3 4), .int 0])), (u3 0, .inl (cI, 32, .inl (fun _ => 0))), (u3 1, .inl (cI, 32, .inl (fun _ => 0))), (u3 2, .inl (cI, 32, .inl (fun _ => 0))), (u3 3, .inl (cI, 32, .inl (fun _ => 0))), (u3 4, .inl (cI, 32, .inl (fun _ => 0)))]) hP hD [1] [0] rfl rfl (by decide) (by decide) hk1 hFc hP1 hD1
  have S : q_S D A s H1 locs [(h0, .inr (5, [.null, .null, .null, .null])), (b3, .inr (3, [.ref (u3 0), .ref (u3 1), .ref (u3 2), .ref (u3 3), .ref (u3 4), .int 0])), (u3 0, .inl (cI, 32, .inl (fun _ => 0))), (u3 1, .inl (cI, 32, .inl (fun _ => 0))), (u3 2, .inl (cI, 32, .inl (fun _ => 0))), (u3 3, .inl (cI, 32, .inl (fun _ => 0))), (u3 4, .inl (cI, 32, .inl (fun _ => 0)))] := ⟨hP, hD, hS⟩
  refine W.widen (k := 6) (n := 166) (by omega) (by omega) ?_
  refine q_top (tf := (.object "NullKinds$Program")) (kf := 0) F S (by decide) (Nat.le_of_ble_eq_true rfl) (by decide +kernel) rfl rfl (by decide +kernel) rfl rfl q_x5_12 (fun H locs S => ?_)
  have S : q_S D A s H locs [(h0, .inr (5, [.ref b3, .null, .null, .null])), (b3, .inr (3, [.ref (u3 0), .ref (u3 1), .ref (u3 2), .ref (u3 3), .ref (u3 4), .int 0])), (u3 0, .inl (cI, 32, .inl (fun _ => 0))), (u3 1, .inl (cI, 32, .inl (fun _ => 0))), (u3 2, .inl (cI, 32, .inl (fun _ => 0))), (u3 3, .inl (cI, 32, .inl (fun _ => 0))), (u3 4, .inl (cI, 32, .inl (fun _ => 0)))] := S
  refine lv_aload_n F.1 F.2.1 q_x5_15 rfl (lv_at hl 0 rfl) ?_
  obtain ⟨hP, hD, hS⟩ := S
  refine va_new (ci := 4) (fs := q_f4) (C := RX4) (T := TX4) (N := 4) F.1 F.2.1 F.2.2.1 (fun w hw => List.mem_cons_of_mem _ (m_uws (c := 4) (by decide) w hw)) (m_ty 4) (m_tyok (c := 4) (by decide)) F.2.2.2.1 (F.2.2.1 (.classLink RX5 18 RX4) (List.mem_cons_of_mem _ (m_gw_in (k := 121) (by decide +kernel)))) (F.2.2.1 _ (List.mem_cons_of_mem _ q_is4)) (F.2.2.1 _ (List.mem_cons_of_mem _ q_in4)) hK hP hD hS hA rfl q_d4 (by show _ ≤ 22; omega) (by show _ ≤ 1570; omega) q_x5_16 (fun b4 H hP hD hS => ?_)
  have hP : va_P D vwCl [(h0, .inr (5, [.ref b3, .null, .null, .null])), (b3, .inr (3, [.ref (u3 0), .ref (u3 1), .ref (u3 2), .ref (u3 3), .ref (u3 4), .int 0])), (u3 0, .inl (cI, 32, .inl (fun _ => 0))), (u3 1, .inl (cI, 32, .inl (fun _ => 0))), (u3 2, .inl (cI, 32, .inl (fun _ => 0))), (u3 3, .inl (cI, 32, .inl (fun _ => 0))), (u3 4, .inl (cI, 32, .inl (fun _ => 0))), (b4, .inr (4, q_f4))] H := hP
  have hD : va_D A [(h0, .inr (5, [.ref b3, .null, .null, .null])), (b3, .inr (3, [.ref (u3 0), .ref (u3 1), .ref (u3 2), .ref (u3 3), .ref (u3 4), .int 0])), (u3 0, .inl (cI, 32, .inl (fun _ => 0))), (u3 1, .inl (cI, 32, .inl (fun _ => 0))), (u3 2, .inl (cI, 32, .inl (fun _ => 0))), (u3 3, .inl (cI, 32, .inl (fun _ => 0))), (u3 4, .inl (cI, 32, .inl (fun _ => 0))), (b4, .inr (4, q_f4))] := hD
  refine W.widen (k := 7) (n := 170) (by omega) (by omega) ?_
  refine lv_dup F.1 F.2.1 q_x5_19 rfl ?_
  have hPc := hP.sub (ws' := [(b4, .inr (4, q_f4))]) [7] rfl
  have hDc := hD.sub (ws' := [(b4, .inr (4, q_f4))]) [7] (by decide) rfl
  have hFc := va_free (wc := [(b4, .inr (4, q_f4))]) hD hS hA [7] rfl
  refine va_callv (va_runIN (As := []) (rest := [.ref b4, .ref h0]) ⟨F.1, F.2.1, hml, F.2.2.2.1, F.2.2.1⟩ (c_X4_init l D cI cZ b4 H.size) ⟨va_cnB (index := 20) (host := "NullKinds") 0 F.2.2.1 (jgood (jallc q_kw4 jself)) rfl rfl rfl hN.2.1 (F.2.2.1 _ (List.mem_cons_of_mem _ q_in4)) ⟨by decide +kernel, by decide +kernel, by decide +kernel⟩ ⟨Nat.le_of_ble_eq_true rfl, Nat.le_of_ble_eq_true rfl⟩, rfl, F.2.2.1 _ (List.mem_cons_of_mem _ q_im4)⟩ ⟨q_blind (fun _ _ _ h => h), fun U hU hW => ⟨rfl, by rw [hU], by rw [hU]; exact hPc, va_K.moved hW.alike hK, hDc.weaken (fun _ _ _ _ => trivial), trivial⟩⟩ rfl rfl hl.1 rfl (lv_room (Nat.le_of_ble_eq_true rfl)) q_x5_20 ⟨by show _ ≤ 22; omega, by show _ ≤ 1570; omega⟩) hS (fun q _ h => hFc q h) hFc (fun u4 t H1 locs ht hvm _ hB hz1 hk1 hS => ?_)
  obtain ⟨hP1, hK1, hD1⟩ := hB
  rw [ht] at hP1
  obtain ⟨hP, hD⟩ := va_join (wr := [(h0, .inr (5, [.ref b3, .null, .null, .null])), (b3, .inr (3, [.ref (u3 0), .ref (u3 1), .ref (u3 2), .ref (u3 3), .ref (u3 4), .int 0])), (u3 0, .inl (cI, 32, .inl (fun _ => 0))), (u3 1, .inl (cI, 32, .inl (fun _ => 0))), (u3 2, .inl (cI, 32, .inl (fun _ => 0))), (u3 3, .inl (cI, 32, .inl (fun _ => 0))), (u3 4, .inl (cI, 32, .inl (fun _ => 0)))]) (w1 := [(b4, .inr (4, [.ref (u4 0), .ref (u4 1), .int 0, .int 0])), (u4 0, .inl (cI, 192, .inl (fun _ => 0))), (u4 1, .inl (cI, 32, .inl (fun _ => 0)))]) hP hD [7] [0, 1, 2, 3, 4, 5, 6] rfl rfl (by decide) (by decide) hk1 hFc hP1 hD1
  have S : q_S D A s H1 locs [(h0, .inr (5, [.ref b3, .null, .null, .null])), (b3, .inr (3, [.ref (u3 0), .ref (u3 1), .ref (u3 2), .ref (u3 3), .ref (u3 4), .int 0])), (u3 0, .inl (cI, 32, .inl (fun _ => 0))), (u3 1, .inl (cI, 32, .inl (fun _ => 0))), (u3 2, .inl (cI, 32, .inl (fun _ => 0))), (u3 3, .inl (cI, 32, .inl (fun _ => 0))), (u3 4, .inl (cI, 32, .inl (fun _ => 0))), (b4, .inr (4, [.ref (u4 0), .ref (u4 1), .int 0, .int 0])), (u4 0, .inl (cI, 192, .inl (fun _ => 0))), (u4 1, .inl (cI, 32, .inl (fun _ => 0)))] := ⟨hP, hD, hS⟩
  refine W.widen (k := 9) (n := 394) (by omega) (by omega) ?_
  refine q_top (tf := (.object "NullKinds$Watch")) (kf := 1) F S (by decide) (Nat.le_of_ble_eq_true rfl) (by decide +kernel) rfl rfl (by decide +kernel) rfl rfl q_x5_23 (fun H locs S => ?_)
  have S : q_S D A s H locs [(h0, .inr (5, [.ref b3, .ref b4, .null, .null])), (b3, .inr (3, [.ref (u3 0), .ref (u3 1), .ref (u3 2), .ref (u3 3), .ref (u3 4), .int 0])), (u3 0, .inl (cI, 32, .inl (fun _ => 0))), (u3 1, .inl (cI, 32, .inl (fun _ => 0))), (u3 2, .inl (cI, 32, .inl (fun _ => 0))), (u3 3, .inl (cI, 32, .inl (fun _ => 0))), (u3 4, .inl (cI, 32, .inl (fun _ => 0))), (b4, .inr (4, [.ref (u4 0), .ref (u4 1), .int 0, .int 0])), (u4 0, .inl (cI, 192, .inl (fun _ => 0))), (u4 1, .inl (cI, 32, .inl (fun _ => 0)))] := S
  refine lv_aload_n F.1 F.2.1 q_x5_26 rfl (lv_at hl 0 rfl) ?_
  obtain ⟨hP, hD, hS⟩ := S
  refine va_new (ci := 1) (fs := q_f1) (C := RX1) (T := TX1) (N := 12) F.1 F.2.1 F.2.2.1 (fun w hw => List.mem_cons_of_mem _ (m_uws (c := 1) (by decide) w hw)) (m_ty 1) (m_tyok (c := 1) (by decide)) F.2.2.2.1 (F.2.2.1 (.classLink RX5 25 RX1) (List.mem_cons_of_mem _ (m_gw_in (k := 140) (by decide +kernel)))) (F.2.2.1 _ (List.mem_cons_of_mem _ q_is1)) (F.2.2.1 _ (List.mem_cons_of_mem _ q_in1)) hK hP hD hS hA rfl q_d1 (by show _ ≤ 22; omega) (by show _ ≤ 1570; omega) q_x5_27 (fun b1 H hP hD hS => ?_)
  have hP : va_P D vwCl [(h0, .inr (5, [.ref b3, .ref b4, .null, .null])), (b3, .inr (3, [.ref (u3 0), .ref (u3 1), .ref (u3 2), .ref (u3 3), .ref (u3 4), .int 0])), (u3 0, .inl (cI, 32, .inl (fun _ => 0))), (u3 1, .inl (cI, 32, .inl (fun _ => 0))), (u3 2, .inl (cI, 32, .inl (fun _ => 0))), (u3 3, .inl (cI, 32, .inl (fun _ => 0))), (u3 4, .inl (cI, 32, .inl (fun _ => 0))), (b4, .inr (4, [.ref (u4 0), .ref (u4 1), .int 0, .int 0])), (u4 0, .inl (cI, 192, .inl (fun _ => 0))), (u4 1, .inl (cI, 32, .inl (fun _ => 0))), (b1, .inr (1, q_f1))] H := hP
  have hD : va_D A [(h0, .inr (5, [.ref b3, .ref b4, .null, .null])), (b3, .inr (3, [.ref (u3 0), .ref (u3 1), .ref (u3 2), .ref (u3 3), .ref (u3 4), .int 0])), (u3 0, .inl (cI, 32, .inl (fun _ => 0))), (u3 1, .inl (cI, 32, .inl (fun _ => 0))), (u3 2, .inl (cI, 32, .inl (fun _ => 0))), (u3 3, .inl (cI, 32, .inl (fun _ => 0))), (u3 4, .inl (cI, 32, .inl (fun _ => 0))), (b4, .inr (4, [.ref (u4 0), .ref (u4 1), .int 0, .int 0])), (u4 0, .inl (cI, 192, .inl (fun _ => 0))), (u4 1, .inl (cI, 32, .inl (fun _ => 0))), (b1, .inr (1, q_f1))] := hD
  refine W.widen (k := 10) (n := 406) (by omega) (by omega) ?_
  refine lv_dup F.1 F.2.1 q_x5_30 rfl ?_
  refine lv_aload_n F.1 F.2.1 q_x5_31 rfl (lv_at hl 0 rfl) ?_
  refine va_get (D := D) (ci := 5) (v := .ref b3) (C := m_R 5) (T := m_Tt 5) (N := m_nf 5) (ref := (m_Tt 5 0).1) F.1 F.2.1 F.2.2.1 (fun w hw => List.mem_cons_of_mem _ (m_uws (c := 5) (by decide) w hw)) F.2.2.2.1 hK hP 0 rfl (m_cl (by decide)) 0 (by decide) (F.2.2.1 _ (List.mem_cons_of_mem _ (m_fl_word (o := 5) (ix := 12) (c0 := 5) (k := 0) (by decide +kernel)))) (fun _ h9 => h9) rfl q_x5_32 ?_
  refine lv_aload_n F.1 F.2.1 q_x5_35 rfl (lv_at hl 0 rfl) ?_
  refine va_get (D := D) (ci := 5) (v := .ref b4) (C := m_R 5) (T := m_Tt 5) (N := m_nf 5) (ref := (m_Tt 5 1).1) F.1 F.2.1 F.2.2.1 (fun w hw => List.mem_cons_of_mem _ (m_uws (c := 5) (by decide) w hw)) F.2.2.2.1 hK hP 0 rfl (m_cl (by decide)) 1 (by decide) (F.2.2.1 _ (List.mem_cons_of_mem _ (m_fl_word (o := 5) (ix := 21) (c0 := 5) (k := 1) (by decide +kernel)))) (fun _ h9 => h9) rfl q_x5_36 ?_
  have hPc := hP.sub (ws' := [(b1, .inr (1, q_f1))]) [10] rfl
  have hDc := hD.sub (ws' := [(b1, .inr (1, q_f1))]) [10] (by decide) rfl
  have hFc := va_free (wc := [(b1, .inr (1, q_f1))]) hD hS hA [10] rfl
  refine va_callv (va_runI (As := [.ref b3, .ref b4]) (rest := [.ref b1, .ref h0]) ⟨F.1, F.2.1, hml, F.2.2.2.1, F.2.2.1⟩ (c_X1_init l D cI cZ b1 b3 b4 H.size) (cwI 2 F.2.2.1 (jgood (jallc q_kw1 jself)) rfl rfl rfl (F.2.2.1 _ (List.mem_cons_of_mem _ q_in1)) (F.2.2.1 (.methodLink RX5 27 yX1_init) (List.mem_cons_of_mem _ (m_gw_in (k := 142) (by decide +kernel)))) (F.2.2.1 _ (List.mem_cons_of_mem _ q_im1)) rfl (by decide +kernel) ⟨Nat.le_of_ble_eq_true rfl, Nat.le_of_ble_eq_true rfl⟩) ⟨q_blind (fun U U' hv h => va_Nw.same rfl hv h), fun U hU hW => ⟨rfl, by rw [hU], by rw [hU]; exact hPc, va_K.moved hW.alike hK, hDc.weaken (fun _ _ _ _ => trivial), va_Nw.warmM hW hN.2.2⟩⟩ rfl rfl hl.1 rfl (lv_room (Nat.le_of_ble_eq_true rfl)) q_x5_39 ⟨by show _ ≤ 22; omega, by show _ ≤ 1570; omega⟩) hS (fun q _ h => hFc q h) hFc (fun u1 t H1 locs ht hvm _ hB hz1 hk1 hS => ?_)
  obtain ⟨hP1, hK1, hD1⟩ := hB
  rw [ht] at hP1
  obtain ⟨hP, hD⟩ := va_join (wr := [(h0, .inr (5, [.ref b3, .ref b4, .null, .null])), (b3, .inr (3, [.ref (u3 0), .ref (u3 1), .ref (u3 2), .ref (u3 3), .ref (u3 4), .int 0])), (u3 0, .inl (cI, 32, .inl (fun _ => 0))), (u3 1, .inl (cI, 32, .inl (fun _ => 0))), (u3 2, .inl (cI, 32, .inl (fun _ => 0))), (u3 3, .inl (cI, 32, .inl (fun _ => 0))), (u3 4, .inl (cI, 32, .inl (fun _ => 0))), (b4, .inr (4, [.ref (u4 0), .ref (u4 1), .int 0, .int 0])), (u4 0, .inl (cI, 192, .inl (fun _ => 0))), (u4 1, .inl (cI, 32, .inl (fun _ => 0)))]) (w1 := [(b1, .inr (1, [.ref b3, .ref b4, .ref (u1 5), .ref (u1 6), .ref (u1 7), .int 0, .int 0, .int 0, .int 4, .int 0, .int 0, .int (-3)])), (u1 5, .inr (0, [.ref (u1 0), .ref (u1 1), .ref (u1 2), .ref (u1 3), .ref (u1 4), .int 0])), (u1 0, .inl (cI, 40, .inl (fun _ => 0))), (u1 1, .inl (cI, 40, .inl (fun _ => 0))), (u1 2, .inl (cI, 40, .inl (fun _ => 0))), (u1 3, .inl (cI, 800, .inl (fun _ => 0))), (u1 4, .inl (cI, 20, .inl (fun _ => 0))), (u1 6, .inl (cI, 6, .inl (fun _ => 0))), (u1 7, .inl (cI, 4, .inl (fun _ => 0)))]) hP hD [10] [0, 1, 2, 3, 4, 5, 6, 7, 8, 9] rfl rfl (by decide) (by decide) hk1 hFc hP1 hD1
  have S : q_S D A s H1 locs [(h0, .inr (5, [.ref b3, .ref b4, .null, .null])), (b3, .inr (3, [.ref (u3 0), .ref (u3 1), .ref (u3 2), .ref (u3 3), .ref (u3 4), .int 0])), (u3 0, .inl (cI, 32, .inl (fun _ => 0))), (u3 1, .inl (cI, 32, .inl (fun _ => 0))), (u3 2, .inl (cI, 32, .inl (fun _ => 0))), (u3 3, .inl (cI, 32, .inl (fun _ => 0))), (u3 4, .inl (cI, 32, .inl (fun _ => 0))), (b4, .inr (4, [.ref (u4 0), .ref (u4 1), .int 0, .int 0])), (u4 0, .inl (cI, 192, .inl (fun _ => 0))), (u4 1, .inl (cI, 32, .inl (fun _ => 0))), (b1, .inr (1, [.ref b3, .ref b4, .ref (u1 5), .ref (u1 6), .ref (u1 7), .int 0, .int 0, .int 0, .int 4, .int 0, .int 0, .int (-3)])), (u1 5, .inr (0, [.ref (u1 0), .ref (u1 1), .ref (u1 2), .ref (u1 3), .ref (u1 4), .int 0])), (u1 0, .inl (cI, 40, .inl (fun _ => 0))), (u1 1, .inl (cI, 40, .inl (fun _ => 0))), (u1 2, .inl (cI, 40, .inl (fun _ => 0))), (u1 3, .inl (cI, 800, .inl (fun _ => 0))), (u1 4, .inl (cI, 20, .inl (fun _ => 0))), (u1 6, .inl (cI, 6, .inl (fun _ => 0))), (u1 7, .inl (cI, 4, .inl (fun _ => 0)))] := ⟨hP, hD, hS⟩
  refine W.widen (k := 18) (n := 1362) (by omega) (by omega) ?_
  refine q_top (tf := (.object "NullKinds$Machine")) (kf := 2) F S (by decide) (Nat.le_of_ble_eq_true rfl) (by decide +kernel) rfl rfl (by decide +kernel) rfl rfl q_x5_42 (fun H locs S => ?_)
  have S : q_S D A s H locs [(h0, .inr (5, [.ref b3, .ref b4, .ref b1, .null])), (b3, .inr (3, [.ref (u3 0), .ref (u3 1), .ref (u3 2), .ref (u3 3), .ref (u3 4), .int 0])), (u3 0, .inl (cI, 32, .inl (fun _ => 0))), (u3 1, .inl (cI, 32, .inl (fun _ => 0))), (u3 2, .inl (cI, 32, .inl (fun _ => 0))), (u3 3, .inl (cI, 32, .inl (fun _ => 0))), (u3 4, .inl (cI, 32, .inl (fun _ => 0))), (b4, .inr (4, [.ref (u4 0), .ref (u4 1), .int 0, .int 0])), (u4 0, .inl (cI, 192, .inl (fun _ => 0))), (u4 1, .inl (cI, 32, .inl (fun _ => 0))), (b1, .inr (1, [.ref b3, .ref b4, .ref (u1 5), .ref (u1 6), .ref (u1 7), .int 0, .int 0, .int 0, .int 4, .int 0, .int 0, .int (-3)])), (u1 5, .inr (0, [.ref (u1 0), .ref (u1 1), .ref (u1 2), .ref (u1 3), .ref (u1 4), .int 0])), (u1 0, .inl (cI, 40, .inl (fun _ => 0))), (u1 1, .inl (cI, 40, .inl (fun _ => 0))), (u1 2, .inl (cI, 40, .inl (fun _ => 0))), (u1 3, .inl (cI, 800, .inl (fun _ => 0))), (u1 4, .inl (cI, 20, .inl (fun _ => 0))), (u1 6, .inl (cI, 6, .inl (fun _ => 0))), (u1 7, .inl (cI, 4, .inl (fun _ => 0)))] := S
  refine lv_aload_n F.1 F.2.1 q_x5_45 rfl (lv_at hl 0 rfl) ?_
  obtain ⟨hP, hD, hS⟩ := S
  refine va_new (ci := 2) (fs := q_f2) (C := RX2) (T := TX2) (N := 7) F.1 F.2.1 F.2.2.1 (fun w hw => List.mem_cons_of_mem _ (m_uws (c := 2) (by decide) w hw)) (m_ty 2) (m_tyok (c := 2) (by decide)) F.2.2.2.1 (F.2.2.1 (.classLink RX5 34 RX2) (List.mem_cons_of_mem _ (m_gw_in (k := 208) (by decide +kernel)))) (F.2.2.1 _ (List.mem_cons_of_mem _ q_is2)) (F.2.2.1 _ (List.mem_cons_of_mem _ q_in2)) hK hP hD hS hA rfl q_d2 (by show _ ≤ 22; omega) (by show _ ≤ 1570; omega) q_x5_46 (fun b2 H hP hD hS => ?_)
  have hP : va_P D vwCl [(h0, .inr (5, [.ref b3, .ref b4, .ref b1, .null])), (b3, .inr (3, [.ref (u3 0), .ref (u3 1), .ref (u3 2), .ref (u3 3), .ref (u3 4), .int 0])), (u3 0, .inl (cI, 32, .inl (fun _ => 0))), (u3 1, .inl (cI, 32, .inl (fun _ => 0))), (u3 2, .inl (cI, 32, .inl (fun _ => 0))), (u3 3, .inl (cI, 32, .inl (fun _ => 0))), (u3 4, .inl (cI, 32, .inl (fun _ => 0))), (b4, .inr (4, [.ref (u4 0), .ref (u4 1), .int 0, .int 0])), (u4 0, .inl (cI, 192, .inl (fun _ => 0))), (u4 1, .inl (cI, 32, .inl (fun _ => 0))), (b1, .inr (1, [.ref b3, .ref b4, .ref (u1 5), .ref (u1 6), .ref (u1 7), .int 0, .int 0, .int 0, .int 4, .int 0, .int 0, .int (-3)])), (u1 5, .inr (0, [.ref (u1 0), .ref (u1 1), .ref (u1 2), .ref (u1 3), .ref (u1 4), .int 0])), (u1 0, .inl (cI, 40, .inl (fun _ => 0))), (u1 1, .inl (cI, 40, .inl (fun _ => 0))), (u1 2, .inl (cI, 40, .inl (fun _ => 0))), (u1 3, .inl (cI, 800, .inl (fun _ => 0))), (u1 4, .inl (cI, 20, .inl (fun _ => 0))), (u1 6, .inl (cI, 6, .inl (fun _ => 0))), (u1 7, .inl (cI, 4, .inl (fun _ => 0))), (b2, .inr (2, q_f2))] H := hP
  have hD : va_D A [(h0, .inr (5, [.ref b3, .ref b4, .ref b1, .null])), (b3, .inr (3, [.ref (u3 0), .ref (u3 1), .ref (u3 2), .ref (u3 3), .ref (u3 4), .int 0])), (u3 0, .inl (cI, 32, .inl (fun _ => 0))), (u3 1, .inl (cI, 32, .inl (fun _ => 0))), (u3 2, .inl (cI, 32, .inl (fun _ => 0))), (u3 3, .inl (cI, 32, .inl (fun _ => 0))), (u3 4, .inl (cI, 32, .inl (fun _ => 0))), (b4, .inr (4, [.ref (u4 0), .ref (u4 1), .int 0, .int 0])), (u4 0, .inl (cI, 192, .inl (fun _ => 0))), (u4 1, .inl (cI, 32, .inl (fun _ => 0))), (b1, .inr (1, [.ref b3, .ref b4, .ref (u1 5), .ref (u1 6), .ref (u1 7), .int 0, .int 0, .int 0, .int 4, .int 0, .int 0, .int (-3)])), (u1 5, .inr (0, [.ref (u1 0), .ref (u1 1), .ref (u1 2), .ref (u1 3), .ref (u1 4), .int 0])), (u1 0, .inl (cI, 40, .inl (fun _ => 0))), (u1 1, .inl (cI, 40, .inl (fun _ => 0))), (u1 2, .inl (cI, 40, .inl (fun _ => 0))), (u1 3, .inl (cI, 800, .inl (fun _ => 0))), (u1 4, .inl (cI, 20, .inl (fun _ => 0))), (u1 6, .inl (cI, 6, .inl (fun _ => 0))), (u1 7, .inl (cI, 4, .inl (fun _ => 0))), (b2, .inr (2, q_f2))] := hD
  refine W.widen (k := 19) (n := 1369) (by omega) (by omega) ?_
  refine lv_dup F.1 F.2.1 q_x5_49 rfl ?_
  refine lv_aload_n F.1 F.2.1 q_x5_50 rfl (lv_at hl 0 rfl) ?_
  refine va_get (D := D) (ci := 5) (v := .ref b3) (C := m_R 5) (T := m_Tt 5) (N := m_nf 5) (ref := (m_Tt 5 0).1) F.1 F.2.1 F.2.2.1 (fun w hw => List.mem_cons_of_mem _ (m_uws (c := 5) (by decide) w hw)) F.2.2.2.1 hK hP 0 rfl (m_cl (by decide)) 0 (by decide) (F.2.2.1 _ (List.mem_cons_of_mem _ (m_fl_word (o := 5) (ix := 12) (c0 := 5) (k := 0) (by decide +kernel)))) (fun _ h9 => h9) rfl q_x5_51 ?_
  have hPc := hP.sub (ws' := [(b2, .inr (2, q_f2))]) [19] rfl
  have hDc := hD.sub (ws' := [(b2, .inr (2, q_f2))]) [19] (by decide) rfl
  have hFc := va_free (wc := [(b2, .inr (2, q_f2))]) hD hS hA [19] rfl
  refine va_callv (va_runI (As := [.ref b3]) (rest := [.ref b2, .ref h0]) ⟨F.1, F.2.1, hml, F.2.2.2.1, F.2.2.1⟩ (c_X2_init l D cI cZ b2 b3 H.size) (cwI 1 F.2.2.1 (jgood (jallc q_kw2 jself)) rfl rfl rfl (F.2.2.1 _ (List.mem_cons_of_mem _ q_in2)) (F.2.2.1 (.methodLink RX5 36 yX2_init) (List.mem_cons_of_mem _ (m_gw_in (k := 210) (by decide +kernel)))) (F.2.2.1 _ (List.mem_cons_of_mem _ q_im2)) rfl (by decide +kernel) ⟨Nat.le_of_ble_eq_true rfl, Nat.le_of_ble_eq_true rfl⟩) ⟨q_blind (fun _ _ _ h => h), fun U hU hW => ⟨rfl, by rw [hU], by rw [hU]; exact hPc, va_K.moved hW.alike hK, hDc.weaken (fun _ _ _ _ => trivial), trivial⟩⟩ rfl rfl hl.1 rfl (lv_room (Nat.le_of_ble_eq_true rfl)) q_x5_54 ⟨by show _ ≤ 22; omega, by show _ ≤ 1570; omega⟩) hS (fun q _ h => hFc q h) hFc (fun u2 t H1 locs ht hvm _ hB hz1 hk1 hS => ?_)
  obtain ⟨hP1, hK1, hD1⟩ := hB
  rw [ht] at hP1
  obtain ⟨hP, hD⟩ := va_join (wr := [(h0, .inr (5, [.ref b3, .ref b4, .ref b1, .null])), (b3, .inr (3, [.ref (u3 0), .ref (u3 1), .ref (u3 2), .ref (u3 3), .ref (u3 4), .int 0])), (u3 0, .inl (cI, 32, .inl (fun _ => 0))), (u3 1, .inl (cI, 32, .inl (fun _ => 0))), (u3 2, .inl (cI, 32, .inl (fun _ => 0))), (u3 3, .inl (cI, 32, .inl (fun _ => 0))), (u3 4, .inl (cI, 32, .inl (fun _ => 0))), (b4, .inr (4, [.ref (u4 0), .ref (u4 1), .int 0, .int 0])), (u4 0, .inl (cI, 192, .inl (fun _ => 0))), (u4 1, .inl (cI, 32, .inl (fun _ => 0))), (b1, .inr (1, [.ref b3, .ref b4, .ref (u1 5), .ref (u1 6), .ref (u1 7), .int 0, .int 0, .int 0, .int 4, .int 0, .int 0, .int (-3)])), (u1 5, .inr (0, [.ref (u1 0), .ref (u1 1), .ref (u1 2), .ref (u1 3), .ref (u1 4), .int 0])), (u1 0, .inl (cI, 40, .inl (fun _ => 0))), (u1 1, .inl (cI, 40, .inl (fun _ => 0))), (u1 2, .inl (cI, 40, .inl (fun _ => 0))), (u1 3, .inl (cI, 800, .inl (fun _ => 0))), (u1 4, .inl (cI, 20, .inl (fun _ => 0))), (u1 6, .inl (cI, 6, .inl (fun _ => 0))), (u1 7, .inl (cI, 4, .inl (fun _ => 0)))]) (w1 := [(b2, .inr (2, [.ref b3, .ref (u2 0), .ref (u2 1), .ref (u2 2), .int 0, .int 0, .int 0])), (u2 0, .inl (cI, 192, .inl (fun _ => 0))), (u2 1, .inl (cI, 3, .inl (fun _ => 0))), (u2 2, .inl (cI, 6, .inl (fun _ => 0)))]) hP hD [19] [0, 1, 2, 3, 4, 5, 6, 7, 8, 9, 10, 11, 12, 13, 14, 15, 16, 17, 18] rfl rfl (by decide) (by decide) hk1 hFc hP1 hD1
  have S : q_S D A s H1 locs [(h0, .inr (5, [.ref b3, .ref b4, .ref b1, .null])), (b3, .inr (3, [.ref (u3 0), .ref (u3 1), .ref (u3 2), .ref (u3 3), .ref (u3 4), .int 0])), (u3 0, .inl (cI, 32, .inl (fun _ => 0))), (u3 1, .inl (cI, 32, .inl (fun _ => 0))), (u3 2, .inl (cI, 32, .inl (fun _ => 0))), (u3 3, .inl (cI, 32, .inl (fun _ => 0))), (u3 4, .inl (cI, 32, .inl (fun _ => 0))), (b4, .inr (4, [.ref (u4 0), .ref (u4 1), .int 0, .int 0])), (u4 0, .inl (cI, 192, .inl (fun _ => 0))), (u4 1, .inl (cI, 32, .inl (fun _ => 0))), (b1, .inr (1, [.ref b3, .ref b4, .ref (u1 5), .ref (u1 6), .ref (u1 7), .int 0, .int 0, .int 0, .int 4, .int 0, .int 0, .int (-3)])), (u1 5, .inr (0, [.ref (u1 0), .ref (u1 1), .ref (u1 2), .ref (u1 3), .ref (u1 4), .int 0])), (u1 0, .inl (cI, 40, .inl (fun _ => 0))), (u1 1, .inl (cI, 40, .inl (fun _ => 0))), (u1 2, .inl (cI, 40, .inl (fun _ => 0))), (u1 3, .inl (cI, 800, .inl (fun _ => 0))), (u1 4, .inl (cI, 20, .inl (fun _ => 0))), (u1 6, .inl (cI, 6, .inl (fun _ => 0))), (u1 7, .inl (cI, 4, .inl (fun _ => 0))), (b2, .inr (2, [.ref b3, .ref (u2 0), .ref (u2 1), .ref (u2 2), .int 0, .int 0, .int 0])), (u2 0, .inl (cI, 192, .inl (fun _ => 0))), (u2 1, .inl (cI, 3, .inl (fun _ => 0))), (u2 2, .inl (cI, 6, .inl (fun _ => 0)))] := ⟨hP, hD, hS⟩
  refine W.widen (k := 22) (n := 1570) (by omega) (by omega) ?_
  refine q_top (tf := (.object "NullKinds$Outlook")) (kf := 3) F S (by decide) (Nat.le_of_ble_eq_true rfl) (by decide +kernel) rfl rfl (by decide +kernel) rfl rfl q_x5_57 (fun H locs S => ?_)
  have S : q_S D A s H locs [(h0, .inr (5, [.ref b3, .ref b4, .ref b1, .ref b2])), (b3, .inr (3, [.ref (u3 0), .ref (u3 1), .ref (u3 2), .ref (u3 3), .ref (u3 4), .int 0])), (u3 0, .inl (cI, 32, .inl (fun _ => 0))), (u3 1, .inl (cI, 32, .inl (fun _ => 0))), (u3 2, .inl (cI, 32, .inl (fun _ => 0))), (u3 3, .inl (cI, 32, .inl (fun _ => 0))), (u3 4, .inl (cI, 32, .inl (fun _ => 0))), (b4, .inr (4, [.ref (u4 0), .ref (u4 1), .int 0, .int 0])), (u4 0, .inl (cI, 192, .inl (fun _ => 0))), (u4 1, .inl (cI, 32, .inl (fun _ => 0))), (b1, .inr (1, [.ref b3, .ref b4, .ref (u1 5), .ref (u1 6), .ref (u1 7), .int 0, .int 0, .int 0, .int 4, .int 0, .int 0, .int (-3)])), (u1 5, .inr (0, [.ref (u1 0), .ref (u1 1), .ref (u1 2), .ref (u1 3), .ref (u1 4), .int 0])), (u1 0, .inl (cI, 40, .inl (fun _ => 0))), (u1 1, .inl (cI, 40, .inl (fun _ => 0))), (u1 2, .inl (cI, 40, .inl (fun _ => 0))), (u1 3, .inl (cI, 800, .inl (fun _ => 0))), (u1 4, .inl (cI, 20, .inl (fun _ => 0))), (u1 6, .inl (cI, 6, .inl (fun _ => 0))), (u1 7, .inl (cI, 4, .inl (fun _ => 0))), (b2, .inr (2, [.ref b3, .ref (u2 0), .ref (u2 1), .ref (u2 2), .int 0, .int 0, .int 0])), (u2 0, .inl (cI, 192, .inl (fun _ => 0))), (u2 1, .inl (cI, 3, .inl (fun _ => 0))), (u2 2, .inl (cI, 6, .inl (fun _ => 0)))] := S
  obtain ⟨hP, hD, hS⟩ := S
  exact W.vret F.1 F.2.1 hr (fun t ht hW => ⟨⟨q_u [u3 0, u3 1, u3 2, u3 3, u3 4, b3, u4 0, u4 1, b4, u1 0, u1 1, u1 2, u1 3, u1 4, u1 5, u1 6, u1 7, b1, u2 0, u2 1, u2 2, b2], rfl, trivial, by rw [ht]; exact hP, va_K.moved hW.alike hK, hD⟩, hS.F ht⟩) hS.2.2 q_x5_60
