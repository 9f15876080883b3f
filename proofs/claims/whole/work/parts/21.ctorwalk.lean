theorem df_Sheet : ∀ j, j < 3 → defaultValue (ty_Sheet j) = vp_V [.null, .int 0, .int 0] j := by decide +kernel
theorem fr_Sheet {E : En} {a : Nat → Nat} {F : Fn} {X : Mem} {n : Nat} (hk : kd n = 4) (h : Fr n F X) : celg E a F X n = .inr (0, [.null, .int 0, .int 0]) := by
  have h0 := (h n (Nat.le_refl n)).1
  have h1 := (h n (Nat.le_refl n)).2.1
  unfold celg
  rw [hk]
  simp only [rv, gI, h0, h1]
  try rfl
theorem df_Shore : ∀ j, j < 6 → defaultValue (ty_Shore j) = vp_V [.null, .null, .null, .int 0, .int 0, .int 0] j := by decide +kernel
theorem fr_Shore {E : En} {a : Nat → Nat} {F : Fn} {X : Mem} {n : Nat} (hk : kd n = 1) (h : Fr n F X) : celg E a F X n = .inr (1, [.null, .null, .null, .int 0, .int 0, .int 0]) := by
  have h0 := (h n (Nat.le_refl n)).1
  have h1 := (h n (Nat.le_refl n)).2.1
  unfold celg
  rw [hk]
  simp only [rv, gI, h0, h1]
  try rfl
theorem df_Tape : ∀ j, j < 6 → defaultValue (ty_Tape j) = vp_V [.null, .int 0, .int 0, .int 0, .int 0, .int 0] j := by decide +kernel
theorem fr_Tape {E : En} {a : Nat → Nat} {F : Fn} {X : Mem} {n : Nat} (hk : kd n = 5) (h : Fr n F X) : celg E a F X n = .inr (2, [.null, .int 0, .int 0, .int 0, .int 0, .int 0]) := by
  have h0 := (h n (Nat.le_refl n)).1
  have h1 := (h n (Nat.le_refl n)).2.1
  unfold celg
  rw [hk]
  simp only [rv, gI, h0, h1]
  try rfl
theorem df_Thing : ∀ j, j < 6 → defaultValue (ty_Thing j) = vp_V [.int 0, .int 0, .int 0, .int 0, .int 0, .int 0] j := by decide +kernel
theorem fr_Thing {E : En} {a : Nat → Nat} {F : Fn} {X : Mem} {n : Nat} (hk : kd n = 2) (h : Fr n F X) : celg E a F X n = .inr (3, [.int 0, .int 0, .int 0, .int 0, .int 0, .int 0]) := by
  have h0 := (h n (Nat.le_refl n)).1
  have h1 := (h n (Nat.le_refl n)).2.1
  unfold celg
  rw [hk]
  simp only [rv, gI, h0, h1]
  try rfl
theorem df_Way : ∀ j, j < 5 → defaultValue (ty_Way j) = vp_V [.int 0, .int 0, .int 0, .int 0, .int 0] j := by decide +kernel
theorem fr_Way {E : En} {a : Nat → Nat} {F : Fn} {X : Mem} {n : Nat} (hk : kd n = 3) (h : Fr n F X) : celg E a F X n = .inr (4, [.int 0, .int 0, .int 0, .int 0, .int 0]) := by
  have h0 := (h n (Nat.le_refl n)).1
  have h1 := (h n (Nat.le_refl n)).2.1
  unfold celg
  rw [hk]
  simp only [rv, gI, h0, h1]
  try rfl
theorem df_Tide : ∀ j, j < 12 → defaultValue (ty_Tide j) = vp_V [.null, .null, .null, .null, .null, .null, .null, .null, .null, .null, .null, .int 0] j := by decide +kernel
theorem fr_Tide {E : En} {a : Nat → Nat} {F : Fn} {X : Mem} {n : Nat} (hk : kd n = 0) (h : Fr n F X) : celg E a F X n = .inr (5, [.null, .null, .null, .null, .null, .null, .null, .null, .null, .null, .null, .int 0]) := by
  have h0 := (h n (Nat.le_refl n)).1
  have h1 := (h n (Nat.le_refl n)).2.1
  unfold celg
  rw [hk]
  simp only [rv, gI, h0, h1]
  try rfl
theorem df_Model : ∀ j, j < 16 → defaultValue (ty_Model j) = vp_V [.null, .null, .null, .null, .int 0, .null, .null, .int 0, .null, .null, .null, .int 0, .int 0, .int 0, .int 0, .int 0] j := by decide +kernel
theorem fr_Model {E : En} {a : Nat → Nat} {F : Fn} {X : Mem} {n : Nat} (hk : kd n = 6) (h : Fr n F X) : celg E a F X n = .inr (6, [.null, .null, .null, .null, .int 0, .null, .null, .int 0, .null, .null, .null, .int 0, .int 0, .int 0, .int 0, .int 0]) := by
  have h0 := (h n (Nat.le_refl n)).1
  have h1 := (h n (Nat.le_refl n)).2.1
  unfold celg
  rw [hk]
  simp only [rv, gI, h0, h1]
  try rfl
theorem fr_RT {E : En} {a : Nat → Nat} {F : Fn} {X : Mem} {n : Nat} (hk : kd n = 4000) (h : Fr n F X) : celg E a F X n = .inl (ca E 3, 10, .inr (.inr (.inr (.inr (fun _ => none))))) := by
  have h0 := (h n (Nat.le_refl n)).1
  unfold celg
  rw [hk]
  simp only [h0]
  rfl
theorem cg_RT {E : En} {a : Nat → Nat} {X : Mem} {n : Nat} (hk : kd n = 4000) (G : Fn) : celg E a G X n = .inl (ca E 3, 10, .inr (.inr (.inr (.inr (fun i => (G n i).map a))))) := by
  unfold celg
  rw [hk]
  rfl
theorem fr_RS {E : En} {a : Nat → Nat} {F : Fn} {X : Mem} {n : Nat} (hk : kd n = 4001) (h : Fr n F X) : celg E a F X n = .inl (ca E 4, 4, .inr (.inr (.inr (.inr (fun _ => none))))) := by
  have h0 := (h n (Nat.le_refl n)).1
  unfold celg
  rw [hk]
  simp only [h0]
  rfl
theorem cg_RS {E : En} {a : Nat → Nat} {X : Mem} {n : Nat} (hk : kd n = 4001) (G : Fn) : celg E a G X n = .inl (ca E 4, 4, .inr (.inr (.inr (.inr (fun i => (G n i).map a))))) := by
  unfold celg
  rw [hk]
  rfl
theorem fr_RW {E : En} {a : Nat → Nat} {F : Fn} {X : Mem} {n : Nat} (hk : kd n = 4002) (h : Fr n F X) : celg E a F X n = .inl (ca E 5, 10, .inr (.inr (.inr (.inr (fun _ => none))))) := by
  have h0 := (h n (Nat.le_refl n)).1
  unfold celg
  rw [hk]
  simp only [h0]
  rfl
theorem cg_RW {E : En} {a : Nat → Nat} {X : Mem} {n : Nat} (hk : kd n = 4002) (G : Fn) : celg E a G X n = .inl (ca E 5, 10, .inr (.inr (.inr (.inr (fun i => (G n i).map a))))) := by
  unfold celg
  rw [hk]
  rfl
theorem ag_trans {a d f : Nat → Nat} {n0 n1 : Nat} (h : ∀ k, k < n0 → d k = a k) (h2 : ∀ k, k < n1 → f k = d k) (hn : n0 ≤ n1) : ∀ k, k < n0 → f k = a k := fun k hk => (h2 k (by omega)).trans (h k hk)
theorem oi_code : Cond.code Lib.objectInit ⟨#[0xb1]⟩ 1 none ∈ tb := tw_85
theorem oi_inst : Cond.instanceMethod Lib.objectInit ∈ tb := tw_84
theorem d_Thing_init_0 : decode c_Thing_init 0 = .ok (.aload_n 0, 1) := by decide +kernel
theorem d_Thing_init_1 : decode c_Thing_init 1 = .ok (.invokespecial 3, 3) := by decide +kernel
theorem d_Thing_init_4 : decode c_Thing_init 4 = .ok (.return_, 1) := by decide +kernel
theorem d_Way_init_0 : decode c_Way_init 0 = .ok (.aload_n 0, 1) := by decide +kernel
theorem d_Way_init_1 : decode c_Way_init 1 = .ok (.invokespecial 3, 3) := by decide +kernel
theorem d_Way_init_4 : decode c_Way_init 4 = .ok (.return_, 1) := by decide +kernel
theorem d_Sheet_init_0 : decode c_Sheet_init 0 = .ok (.aload_n 0, 1) := by decide +kernel
theorem d_Sheet_init_1 : decode c_Sheet_init 1 = .ok (.invokespecial 3, 3) := by decide +kernel
theorem d_Sheet_init_4 : decode c_Sheet_init 4 = .ok (.aload_n 0, 1) := by decide +kernel
theorem d_Sheet_init_5 : decode c_Sheet_init 5 = .ok (.bipush 40, 2) := by decide +kernel
theorem d_Sheet_init_7 : decode c_Sheet_init 7 = .ok (.newarray .long, 2) := by decide +kernel
theorem d_Sheet_init_9 : decode c_Sheet_init 9 = .ok (.putfield 9, 3) := by decide +kernel
theorem d_Sheet_init_12 : decode c_Sheet_init 12 = .ok (.return_, 1) := by decide +kernel
theorem d_Tape_init_0 : decode c_Tape_init 0 = .ok (.aload_n 0, 1) := by decide +kernel
theorem d_Tape_init_1 : decode c_Tape_init 1 = .ok (.invokespecial 3, 3) := by decide +kernel
theorem d_Tape_init_4 : decode c_Tape_init 4 = .ok (.aload_n 0, 1) := by decide +kernel
theorem d_Tape_init_5 : decode c_Tape_init 5 = .ok (.bipush 120, 2) := by decide +kernel
theorem d_Tape_init_7 : decode c_Tape_init 7 = .ok (.newarray .byte, 2) := by decide +kernel
theorem d_Tape_init_9 : decode c_Tape_init 9 = .ok (.putfield 9, 3) := by decide +kernel
theorem d_Tape_init_12 : decode c_Tape_init 12 = .ok (.return_, 1) := by decide +kernel
theorem d_Shore_init_0 : decode c_Shore_init 0 = .ok (.aload_n 0, 1) := by decide +kernel
theorem d_Shore_init_1 : decode c_Shore_init 1 = .ok (.invokespecial 3, 3) := by decide +kernel
theorem d_Shore_init_4 : decode c_Shore_init 4 = .ok (.aload_n 0, 1) := by decide +kernel
theorem d_Shore_init_5 : decode c_Shore_init 5 = .ok (.bipush 16, 2) := by decide +kernel
theorem d_Shore_init_7 : decode c_Shore_init 7 = .ok (.newarray .int, 2) := by decide +kernel
theorem d_Shore_init_9 : decode c_Shore_init 9 = .ok (.putfield 9, 3) := by decide +kernel
theorem d_Shore_init_12 : decode c_Shore_init 12 = .ok (.aload_n 0, 1) := by decide +kernel
theorem d_Shore_init_13 : decode c_Shore_init 13 = .ok (.iconst 4, 1) := by decide +kernel
theorem d_Shore_init_14 : decode c_Shore_init 14 = .ok (.newarray .int, 2) := by decide +kernel
theorem d_Shore_init_16 : decode c_Shore_init 16 = .ok (.putfield 15, 3) := by decide +kernel
theorem d_Shore_init_19 : decode c_Shore_init 19 = .ok (.aload_n 0, 1) := by decide +kernel
theorem d_Shore_init_20 : decode c_Shore_init 20 = .ok (.bipush 10, 2) := by decide +kernel
theorem d_Shore_init_22 : decode c_Shore_init 22 = .ok (.anewarray 18, 3) := by decide +kernel
theorem d_Shore_init_25 : decode c_Shore_init 25 = .ok (.putfield 20, 3) := by decide +kernel
theorem d_Shore_init_28 : decode c_Shore_init 28 = .ok (.aload_n 0, 1) := by decide +kernel
theorem d_Shore_init_29 : decode c_Shore_init 29 = .ok (.iconst 2, 1) := by decide +kernel
theorem d_Shore_init_30 : decode c_Shore_init 30 = .ok (.putfield 24, 3) := by decide +kernel
theorem d_Shore_init_33 : decode c_Shore_init 33 = .ok (.iconst 0, 1) := by decide +kernel
theorem d_Shore_init_34 : decode c_Shore_init 34 = .ok (.istore_n 1, 1) := by decide +kernel
theorem d_Shore_init_35 : decode c_Shore_init 35 = .ok (.iload_n 1, 1) := by decide +kernel
theorem d_Shore_init_36 : decode c_Shore_init 36 = .ok (.bipush 16, 2) := by decide +kernel
theorem d_Shore_init_38 : decode c_Shore_init 38 = .ok (.if_icmp .ge 19, 3) := by decide +kernel
theorem d_Shore_init_41 : decode c_Shore_init 41 = .ok (.aload_n 0, 1) := by decide +kernel
theorem d_Shore_init_42 : decode c_Shore_init 42 = .ok (.getfield 9, 3) := by decide +kernel
theorem d_Shore_init_45 : decode c_Shore_init 45 = .ok (.iload_n 1, 1) := by decide +kernel
theorem d_Shore_init_46 : decode c_Shore_init 46 = .ok (.iload_n 1, 1) := by decide +kernel
theorem d_Shore_init_47 : decode c_Shore_init 47 = .ok (.bipush 10, 2) := by decide +kernel
theorem d_Shore_init_49 : decode c_Shore_init 49 = .ok (.irem, 1) := by decide +kernel
theorem d_Shore_init_50 : decode c_Shore_init 50 = .ok (.iastore, 1) := by decide +kernel
theorem d_Shore_init_51 : decode c_Shore_init 51 = .ok (.iinc 1 1, 3) := by decide +kernel
theorem d_Shore_init_54 : decode c_Shore_init 54 = .ok (.goto (-19), 3) := by decide +kernel
theorem d_Shore_init_57 : decode c_Shore_init 57 = .ok (.iconst 0, 1) := by decide +kernel
theorem d_Shore_init_58 : decode c_Shore_init 58 = .ok (.istore_n 1, 1) := by decide +kernel
theorem d_Shore_init_59 : decode c_Shore_init 59 = .ok (.iload_n 1, 1) := by decide +kernel
theorem d_Shore_init_60 : decode c_Shore_init 60 = .ok (.bipush 10, 2) := by decide +kernel
theorem d_Shore_init_62 : decode c_Shore_init 62 = .ok (.if_icmp .ge 22, 3) := by decide +kernel
theorem d_Shore_init_65 : decode c_Shore_init 65 = .ok (.aload_n 0, 1) := by decide +kernel
theorem d_Shore_init_66 : decode c_Shore_init 66 = .ok (.getfield 20, 3) := by decide +kernel
theorem d_Shore_init_69 : decode c_Shore_init 69 = .ok (.iload_n 1, 1) := by decide +kernel
theorem d_Shore_init_70 : decode c_Shore_init 70 = .ok (.new 18, 3) := by decide +kernel
theorem d_Shore_init_73 : decode c_Shore_init 73 = .ok (.dup, 1) := by decide +kernel
theorem d_Shore_init_74 : decode c_Shore_init 74 = .ok (.invokespecial 28, 3) := by decide +kernel
theorem d_Shore_init_77 : decode c_Shore_init 77 = .ok (.aastore, 1) := by decide +kernel
theorem d_Shore_init_78 : decode c_Shore_init 78 = .ok (.iinc 1 1, 3) := by decide +kernel
theorem d_Shore_init_81 : decode c_Shore_init 81 = .ok (.goto (-22), 3) := by decide +kernel
theorem d_Shore_init_84 : decode c_Shore_init 84 = .ok (.return_, 1) := by decide +kernel
theorem d_Tide_init_0 : decode c_Tide_init 0 = .ok (.aload_n 0, 1) := by decide +kernel
theorem d_Tide_init_1 : decode c_Tide_init 1 = .ok (.invokespecial 1, 3) := by decide +kernel
theorem d_Tide_init_4 : decode c_Tide_init 4 = .ok (.aload_n 0, 1) := by decide +kernel
theorem d_Tide_init_5 : decode c_Tide_init 5 = .ok (.bipush 7, 2) := by decide +kernel
theorem d_Tide_init_7 : decode c_Tide_init 7 = .ok (.newarray .int, 2) := by decide +kernel
theorem d_Tide_init_9 : decode c_Tide_init 9 = .ok (.putfield 9, 3) := by decide +kernel
theorem d_Tide_init_12 : decode c_Tide_init 12 = .ok (.aload_n 0, 1) := by decide +kernel
theorem d_Tide_init_13 : decode c_Tide_init 13 = .ok (.new 13, 3) := by decide +kernel
theorem d_Tide_init_16 : decode c_Tide_init 16 = .ok (.dup, 1) := by decide +kernel
theorem d_Tide_init_17 : decode c_Tide_init 17 = .ok (.invokespecial 15, 3) := by decide +kernel
theorem d_Tide_init_20 : decode c_Tide_init 20 = .ok (.putfield 16, 3) := by decide +kernel
theorem d_Tide_init_23 : decode c_Tide_init 23 = .ok (.aload_n 0, 1) := by decide +kernel
theorem d_Tide_init_24 : decode c_Tide_init 24 = .ok (.new 13, 3) := by decide +kernel
theorem d_Tide_init_27 : decode c_Tide_init 27 = .ok (.dup, 1) := by decide +kernel
theorem d_Tide_init_28 : decode c_Tide_init 28 = .ok (.invokespecial 15, 3) := by decide +kernel
theorem d_Tide_init_31 : decode c_Tide_init 31 = .ok (.putfield 20, 3) := by decide +kernel
theorem d_Tide_init_34 : decode c_Tide_init 34 = .ok (.aload_n 0, 1) := by decide +kernel
theorem d_Tide_init_35 : decode c_Tide_init 35 = .ok (.new 13, 3) := by decide +kernel
theorem d_Tide_init_38 : decode c_Tide_init 38 = .ok (.dup, 1) := by decide +kernel
theorem d_Tide_init_39 : decode c_Tide_init 39 = .ok (.invokespecial 15, 3) := by decide +kernel
theorem d_Tide_init_42 : decode c_Tide_init 42 = .ok (.putfield 23, 3) := by decide +kernel
theorem d_Tide_init_45 : decode c_Tide_init 45 = .ok (.aload_n 0, 1) := by decide +kernel
theorem d_Tide_init_46 : decode c_Tide_init 46 = .ok (.new 26, 3) := by decide +kernel
theorem d_Tide_init_49 : decode c_Tide_init 49 = .ok (.dup, 1) := by decide +kernel
theorem d_Tide_init_50 : decode c_Tide_init 50 = .ok (.invokespecial 28, 3) := by decide +kernel
theorem d_Tide_init_53 : decode c_Tide_init 53 = .ok (.putfield 29, 3) := by decide +kernel
theorem d_Tide_init_56 : decode c_Tide_init 56 = .ok (.aload_n 0, 1) := by decide +kernel
theorem d_Tide_init_57 : decode c_Tide_init 57 = .ok (.iconst 4, 1) := by decide +kernel
theorem d_Tide_init_58 : decode c_Tide_init 58 = .ok (.anewarray 33, 3) := by decide +kernel
theorem d_Tide_init_61 : decode c_Tide_init 61 = .ok (.putfield 35, 3) := by decide +kernel
theorem d_Tide_init_64 : decode c_Tide_init 64 = .ok (.aload_n 0, 1) := by decide +kernel
theorem d_Tide_init_65 : decode c_Tide_init 65 = .ok (.bipush 10, 2) := by decide +kernel
theorem d_Tide_init_67 : decode c_Tide_init 67 = .ok (.anewarray 39, 3) := by decide +kernel
theorem d_Tide_init_70 : decode c_Tide_init 70 = .ok (.putfield 41, 3) := by decide +kernel
theorem d_Tide_init_73 : decode c_Tide_init 73 = .ok (.aload_n 0, 1) := by decide +kernel
theorem d_Tide_init_74 : decode c_Tide_init 74 = .ok (.bipush 10, 2) := by decide +kernel
theorem d_Tide_init_76 : decode c_Tide_init 76 = .ok (.newarray .int, 2) := by decide +kernel
theorem d_Tide_init_78 : decode c_Tide_init 78 = .ok (.putfield 45, 3) := by decide +kernel
theorem d_Tide_init_81 : decode c_Tide_init 81 = .ok (.aload_n 0, 1) := by decide +kernel
theorem d_Tide_init_82 : decode c_Tide_init 82 = .ok (.bipush 40, 2) := by decide +kernel
theorem d_Tide_init_84 : decode c_Tide_init 84 = .ok (.newarray .int, 2) := by decide +kernel
theorem d_Tide_init_86 : decode c_Tide_init 86 = .ok (.putfield 48, 3) := by decide +kernel
theorem d_Tide_init_89 : decode c_Tide_init 89 = .ok (.aload_n 0, 1) := by decide +kernel
theorem d_Tide_init_90 : decode c_Tide_init 90 = .ok (.new 51, 3) := by decide +kernel
theorem d_Tide_init_93 : decode c_Tide_init 93 = .ok (.dup, 1) := by decide +kernel
theorem d_Tide_init_94 : decode c_Tide_init 94 = .ok (.invokespecial 53, 3) := by decide +kernel
theorem d_Tide_init_97 : decode c_Tide_init 97 = .ok (.putfield 54, 3) := by decide +kernel
theorem d_Tide_init_100 : decode c_Tide_init 100 = .ok (.aload_n 0, 1) := by decide +kernel
theorem d_Tide_init_101 : decode c_Tide_init 101 = .ok (.new 39, 3) := by decide +kernel
theorem d_Tide_init_104 : decode c_Tide_init 104 = .ok (.dup, 1) := by decide +kernel
theorem d_Tide_init_105 : decode c_Tide_init 105 = .ok (.invokespecial 58, 3) := by decide +kernel
theorem d_Tide_init_108 : decode c_Tide_init 108 = .ok (.putfield 59, 3) := by decide +kernel
theorem d_Tide_init_111 : decode c_Tide_init 111 = .ok (.iconst 0, 1) := by decide +kernel
theorem d_Tide_init_112 : decode c_Tide_init 112 = .ok (.istore_n 1, 1) := by decide +kernel
theorem d_Tide_init_113 : decode c_Tide_init 113 = .ok (.iload_n 1, 1) := by decide +kernel
theorem d_Tide_init_114 : decode c_Tide_init 114 = .ok (.iconst 4, 1) := by decide +kernel
theorem d_Tide_init_115 : decode c_Tide_init 115 = .ok (.if_icmp .ge 22, 3) := by decide +kernel
theorem d_Tide_init_118 : decode c_Tide_init 118 = .ok (.aload_n 0, 1) := by decide +kernel
theorem d_Tide_init_119 : decode c_Tide_init 119 = .ok (.getfield 35, 3) := by decide +kernel
theorem d_Tide_init_122 : decode c_Tide_init 122 = .ok (.iload_n 1, 1) := by decide +kernel
theorem d_Tide_init_123 : decode c_Tide_init 123 = .ok (.new 33, 3) := by decide +kernel
theorem d_Tide_init_126 : decode c_Tide_init 126 = .ok (.dup, 1) := by decide +kernel
theorem d_Tide_init_127 : decode c_Tide_init 127 = .ok (.invokespecial 63, 3) := by decide +kernel
theorem d_Tide_init_130 : decode c_Tide_init 130 = .ok (.aastore, 1) := by decide +kernel
theorem d_Tide_init_131 : decode c_Tide_init 131 = .ok (.iinc 1 1, 3) := by decide +kernel
theorem d_Tide_init_134 : decode c_Tide_init 134 = .ok (.goto (-21), 3) := by decide +kernel
theorem d_Tide_init_137 : decode c_Tide_init 137 = .ok (.iconst 0, 1) := by decide +kernel
theorem d_Tide_init_138 : decode c_Tide_init 138 = .ok (.istore_n 1, 1) := by decide +kernel
theorem d_Tide_init_139 : decode c_Tide_init 139 = .ok (.iload_n 1, 1) := by decide +kernel
theorem d_Tide_init_140 : decode c_Tide_init 140 = .ok (.bipush 10, 2) := by decide +kernel
theorem d_Tide_init_142 : decode c_Tide_init 142 = .ok (.if_icmp .ge 22, 3) := by decide +kernel
theorem d_Tide_init_145 : decode c_Tide_init 145 = .ok (.aload_n 0, 1) := by decide +kernel
theorem d_Tide_init_146 : decode c_Tide_init 146 = .ok (.getfield 41, 3) := by decide +kernel
theorem d_Tide_init_149 : decode c_Tide_init 149 = .ok (.iload_n 1, 1) := by decide +kernel
theorem d_Tide_init_150 : decode c_Tide_init 150 = .ok (.new 39, 3) := by decide +kernel
theorem d_Tide_init_153 : decode c_Tide_init 153 = .ok (.dup, 1) := by decide +kernel
theorem d_Tide_init_154 : decode c_Tide_init 154 = .ok (.invokespecial 58, 3) := by decide +kernel
theorem d_Tide_init_157 : decode c_Tide_init 157 = .ok (.aastore, 1) := by decide +kernel
theorem d_Tide_init_158 : decode c_Tide_init 158 = .ok (.iinc 1 1, 3) := by decide +kernel
theorem d_Tide_init_161 : decode c_Tide_init 161 = .ok (.goto (-22), 3) := by decide +kernel
theorem d_Tide_init_164 : decode c_Tide_init 164 = .ok (.return_, 1) := by decide +kernel
theorem d_Model_init_0 : decode c_Model_init 0 = .ok (.aload_n 0, 1) := by decide +kernel
theorem d_Model_init_1 : decode c_Model_init 1 = .ok (.invokespecial 1, 3) := by decide +kernel
theorem d_Model_init_4 : decode c_Model_init 4 = .ok (.aload_n 0, 1) := by decide +kernel
theorem d_Model_init_5 : decode c_Model_init 5 = .ok (.bipush 83, 2) := by decide +kernel
theorem d_Model_init_7 : decode c_Model_init 7 = .ok (.newarray .int, 2) := by decide +kernel
theorem d_Model_init_9 : decode c_Model_init 9 = .ok (.putfield 7, 3) := by decide +kernel
theorem d_Model_init_12 : decode c_Model_init 12 = .ok (.aload_n 0, 1) := by decide +kernel
theorem d_Model_init_13 : decode c_Model_init 13 = .ok (.bipush 83, 2) := by decide +kernel
theorem d_Model_init_15 : decode c_Model_init 15 = .ok (.newarray .int, 2) := by decide +kernel
theorem d_Model_init_17 : decode c_Model_init 17 = .ok (.putfield 13, 3) := by decide +kernel
theorem d_Model_init_20 : decode c_Model_init 20 = .ok (.aload_n 0, 1) := by decide +kernel
theorem d_Model_init_21 : decode c_Model_init 21 = .ok (.bipush 83, 2) := by decide +kernel
theorem d_Model_init_23 : decode c_Model_init 23 = .ok (.newarray .int, 2) := by decide +kernel
theorem d_Model_init_25 : decode c_Model_init 25 = .ok (.putfield 16, 3) := by decide +kernel
theorem d_Model_init_28 : decode c_Model_init 28 = .ok (.aload_n 0, 1) := by decide +kernel
theorem d_Model_init_29 : decode c_Model_init 29 = .ok (.bipush 83, 2) := by decide +kernel
theorem d_Model_init_31 : decode c_Model_init 31 = .ok (.newarray .int, 2) := by decide +kernel
theorem d_Model_init_33 : decode c_Model_init 33 = .ok (.putfield 19, 3) := by decide +kernel
theorem d_Model_init_36 : decode c_Model_init 36 = .ok (.aload_n 0, 1) := by decide +kernel
theorem d_Model_init_37 : decode c_Model_init 37 = .ok (.bipush 8, 2) := by decide +kernel
theorem d_Model_init_39 : decode c_Model_init 39 = .ok (.newarray .int, 2) := by decide +kernel
theorem d_Model_init_41 : decode c_Model_init 41 = .ok (.putfield 22, 3) := by decide +kernel
theorem d_Model_init_44 : decode c_Model_init 44 = .ok (.aload_n 0, 1) := by decide +kernel
theorem d_Model_init_45 : decode c_Model_init 45 = .ok (.bipush 120, 2) := by decide +kernel
theorem d_Model_init_47 : decode c_Model_init 47 = .ok (.newarray .int, 2) := by decide +kernel
theorem d_Model_init_49 : decode c_Model_init 49 = .ok (.putfield 25, 3) := by decide +kernel
theorem d_Model_init_52 : decode c_Model_init 52 = .ok (.aload_n 0, 1) := by decide +kernel
theorem d_Model_init_53 : decode c_Model_init 53 = .ok (.iconst 4, 1) := by decide +kernel
theorem d_Model_init_54 : decode c_Model_init 54 = .ok (.newarray .int, 2) := by decide +kernel
theorem d_Model_init_56 : decode c_Model_init 56 = .ok (.dup, 1) := by decide +kernel
theorem d_Model_init_57 : decode c_Model_init 57 = .ok (.iconst 0, 1) := by decide +kernel
theorem d_Model_init_58 : decode c_Model_init 58 = .ok (.iconst (-1), 1) := by decide +kernel
theorem d_Model_init_59 : decode c_Model_init 59 = .ok (.iastore, 1) := by decide +kernel
theorem d_Model_init_60 : decode c_Model_init 60 = .ok (.dup, 1) := by decide +kernel
theorem d_Model_init_61 : decode c_Model_init 61 = .ok (.iconst 1, 1) := by decide +kernel
theorem d_Model_init_62 : decode c_Model_init 62 = .ok (.iconst (-1), 1) := by decide +kernel
theorem d_Model_init_63 : decode c_Model_init 63 = .ok (.iastore, 1) := by decide +kernel
theorem d_Model_init_64 : decode c_Model_init 64 = .ok (.dup, 1) := by decide +kernel
theorem d_Model_init_65 : decode c_Model_init 65 = .ok (.iconst 2, 1) := by decide +kernel
theorem d_Model_init_66 : decode c_Model_init 66 = .ok (.iconst (-1), 1) := by decide +kernel
theorem d_Model_init_67 : decode c_Model_init 67 = .ok (.iastore, 1) := by decide +kernel
theorem d_Model_init_68 : decode c_Model_init 68 = .ok (.dup, 1) := by decide +kernel
theorem d_Model_init_69 : decode c_Model_init 69 = .ok (.iconst 3, 1) := by decide +kernel
theorem d_Model_init_70 : decode c_Model_init 70 = .ok (.iconst (-1), 1) := by decide +kernel
theorem d_Model_init_71 : decode c_Model_init 71 = .ok (.iastore, 1) := by decide +kernel
theorem d_Model_init_72 : decode c_Model_init 72 = .ok (.putfield 28, 3) := by decide +kernel
theorem d_Model_init_75 : decode c_Model_init 75 = .ok (.aload_n 0, 1) := by decide +kernel
theorem d_Model_init_76 : decode c_Model_init 76 = .ok (.iconst 4, 1) := by decide +kernel
theorem d_Model_init_77 : decode c_Model_init 77 = .ok (.newarray .int, 2) := by decide +kernel
theorem d_Model_init_79 : decode c_Model_init 79 = .ok (.putfield 31, 3) := by decide +kernel
theorem d_Model_init_82 : decode c_Model_init 82 = .ok (.aload_n 0, 1) := by decide +kernel
theorem d_Model_init_83 : decode c_Model_init 83 = .ok (.sipush 160, 3) := by decide +kernel
theorem d_Model_init_86 : decode c_Model_init 86 = .ok (.newarray .long, 2) := by decide +kernel
theorem d_Model_init_88 : decode c_Model_init 88 = .ok (.putfield 34, 3) := by decide +kernel
theorem d_Model_init_91 : decode c_Model_init 91 = .ok (.aload_n 0, 1) := by decide +kernel
theorem d_Model_init_92 : decode c_Model_init 92 = .ok (.getfield 7, 3) := by decide +kernel
theorem d_Model_init_95 : decode c_Model_init 95 = .ok (.iconst 2, 1) := by decide +kernel
theorem d_Model_init_96 : decode c_Model_init 96 = .ok (.iconst 2, 1) := by decide +kernel
theorem d_Model_init_97 : decode c_Model_init 97 = .ok (.iastore, 1) := by decide +kernel
theorem d_Model_init_98 : decode c_Model_init 98 = .ok (.iconst 0, 1) := by decide +kernel
theorem d_Model_init_99 : decode c_Model_init 99 = .ok (.istore_n 1, 1) := by decide +kernel
theorem d_Model_init_100 : decode c_Model_init 100 = .ok (.iload_n 1, 1) := by decide +kernel
theorem d_Model_init_101 : decode c_Model_init 101 = .ok (.bipush 16, 2) := by decide +kernel
theorem d_Model_init_103 : decode c_Model_init 103 = .ok (.if_icmp .ge 21, 3) := by decide +kernel
theorem d_Model_init_106 : decode c_Model_init 106 = .ok (.aload_n 0, 1) := by decide +kernel
theorem d_Model_init_107 : decode c_Model_init 107 = .ok (.getfield 7, 3) := by decide +kernel
theorem d_Model_init_110 : decode c_Model_init 110 = .ok (.iconst 3, 1) := by decide +kernel
theorem d_Model_init_111 : decode c_Model_init 111 = .ok (.iload_n 1, 1) := by decide +kernel
theorem d_Model_init_112 : decode c_Model_init 112 = .ok (.iadd, 1) := by decide +kernel
theorem d_Model_init_113 : decode c_Model_init 113 = .ok (.iload_n 1, 1) := by decide +kernel
theorem d_Model_init_114 : decode c_Model_init 114 = .ok (.bipush 10, 2) := by decide +kernel
theorem d_Model_init_116 : decode c_Model_init 116 = .ok (.irem, 1) := by decide +kernel
theorem d_Model_init_117 : decode c_Model_init 117 = .ok (.iastore, 1) := by decide +kernel
theorem d_Model_init_118 : decode c_Model_init 118 = .ok (.iinc 1 1, 3) := by decide +kernel
theorem d_Model_init_121 : decode c_Model_init 121 = .ok (.goto (-21), 3) := by decide +kernel
theorem d_Model_init_124 : decode c_Model_init 124 = .ok (.return_, 1) := by decide +kernel
set_option maxRecDepth 100000 in
theorem kc_Thing {l : Launch} {E : En} {b n : Nat} {a : Nat → Nat} {F : Fn} {X : Mem} {x : Nat} : Met l y_Thing_init (Cond.code y_Thing_init c_Thing_init 1 none :: tb) ({ frames := 1, cells := 0, slots := 0, locals := 12 } : Room) (PreG E b [.ref x] n a F X) (PostG E b n a n F X) 0 0 (fun q => b ≤ q) := by
  refine met_ofG (by decide) rfl (Nat.le_of_ble_eq_true rfl) (fun p e s m below meth c C h ls hl => ?_)
  replace C : Cg p s m ([.ref x] : List Value).toArray meth c c_Thing_init 1 "TideLoans$Thing" E b := C
  replace hl : lv_has ls 1 [(0, .ref x)] := hl
  obtain ⟨hx, hb, hml, hown, hts, hrt, hlk, hKg, hnm⟩ := id C
  refine lv_aload_n hx hb d_Thing_init_0 rfl (lv_at hl 0 rfl) ?_
  refine g_oinit C hl.1 tw_98 oi_inst oi_code (Nat.le_of_ble_eq_true rfl) (Nat.le_of_ble_eq_true rfl) d_Thing_init_1 ?_
  exact g_vret C h (fun _ _ => rfl) ⟨rfl, rfl, rfl⟩ d_Thing_init_4
set_option maxRecDepth 100000 in
theorem kc_Way {l : Launch} {E : En} {b n : Nat} {a : Nat → Nat} {F : Fn} {X : Mem} {x : Nat} : Met l y_Way_init (Cond.code y_Way_init c_Way_init 1 none :: tb) ({ frames := 1, cells := 0, slots := 0, locals := 12 } : Room) (PreG E b [.ref x] n a F X) (PostG E b n a n F X) 0 0 (fun q => b ≤ q) := by
  refine met_ofG (by decide) rfl (Nat.le_of_ble_eq_true rfl) (fun p e s m below meth c C h ls hl => ?_)
  replace C : Cg p s m ([.ref x] : List Value).toArray meth c c_Way_init 1 "TideLoans$Way" E b := C
  replace hl : lv_has ls 1 [(0, .ref x)] := hl
  obtain ⟨hx, hb, hml, hown, hts, hrt, hlk, hKg, hnm⟩ := id C
  refine lv_aload_n hx hb d_Way_init_0 rfl (lv_at hl 0 rfl) ?_
  refine g_oinit C hl.1 tw_196 oi_inst oi_code (Nat.le_of_ble_eq_true rfl) (Nat.le_of_ble_eq_true rfl) d_Way_init_1 ?_
  exact g_vret C h (fun _ _ => rfl) ⟨rfl, rfl, rfl⟩ d_Way_init_4
def cF_Sheet_52 (F : Fn) : Fn := (sF F 52 0 53)
def cX_Sheet_52 (X : Mem) : Mem := X
set_option maxHeartbeats 4000000 in
set_option maxRecDepth 100000 in
theorem kc_Sheet_52 {l : Launch} {E : En} {b : Nat} {a : Nat → Nat} {F : Fn} {X : Mem} {x : Nat} (hx0 : a 52 = x) : Met l y_Sheet_init (Cond.code y_Sheet_init c_Sheet_init 1 none :: tb) ({ frames := 1, cells := 1, slots := 40, locals := 12 } : Room) (PreG E b [.ref x] 53 a F X) (PostG E b 53 a 54 (cF_Sheet_52 F) (cX_Sheet_52 X)) 1 40 (fun q => b ≤ q) := by
  refine met_ofG (by decide) rfl (Nat.le_of_ble_eq_true rfl) (fun p e s m below meth c C h ls hl => ?_)
  replace C : Cg p s m ([.ref x] : List Value).toArray meth c c_Sheet_init 1 "TideLoans$Sheet" E b := C
  replace hl : lv_has ls 1 [(0, .ref x)] := hl
  obtain ⟨hx, hb, hml, hown, hts, hrt, hlk, hKg, hnm⟩ := id C
  have hag : ∀ k, k < 53 → a k = a k := fun _ _ => rfl
  refine lv_aload_n hx hb d_Sheet_init_0 rfl (lv_at hl 0 rfl) ?_
  refine g_oinit C hl.1 tw_221 oi_inst oi_code (Nat.le_of_ble_eq_true rfl) (Nat.le_of_ble_eq_true rfl) d_Sheet_init_1 ?_
  refine lv_aload_n hx hb d_Sheet_init_4 rfl (lv_at hl 0 rfl) ?_
  refine lv_bipush (v := 40) hx hb d_Sheet_init_5 (by decide) ?_
  refine g_newP C h (atype := .long) (ty := .long) rfl (N := 40) (t0 := 2) (a0 := (40, .inr (.inl (fun _ => 0)))) (fr_L (N := 40) rfl (by decide)) (fun _ => rfl) rfl (fun _ q => by cases q) (by decide) (by decide) tw_235 (Nat.le_of_ble_eq_true rfl) (Nat.le_of_ble_eq_true rfl) (Nat.le_of_ble_eq_true rfl) d_Sheet_init_7 (fun q53 a1 H hq53 had h => ?_)
  have g52_1 : a1 52 = x := (had 52 (by decide)).trans hx0
  replace hag := ag_trans hag had (by decide)
  refine g_putR C h (k := 52) (q := 53) (by decide) (by decide) g52_1 hq53 rfl (rfl : cls[0]? = some (R_Sheet, T_Sheet, 3)) in_Sheet ty_Sheet tyok_Sheet nm_Sheet 0 (by decide) tw_222 rfl rfl rfl rfl (Nat.le_of_ble_eq_true rfl) rfl rfl d_Sheet_init_9 (fun H locs h => ?_)
  exact g_vret C h hag ⟨rfl, rfl, rfl⟩ d_Sheet_init_12
def cF_Sheet_54 (F : Fn) : Fn := (sF F 54 0 55)
def cX_Sheet_54 (X : Mem) : Mem := X
set_option maxHeartbeats 4000000 in
set_option maxRecDepth 100000 in
theorem kc_Sheet_54 {l : Launch} {E : En} {b : Nat} {a : Nat → Nat} {F : Fn} {X : Mem} {x : Nat} (hx0 : a 54 = x) : Met l y_Sheet_init (Cond.code y_Sheet_init c_Sheet_init 1 none :: tb) ({ frames := 1, cells := 1, slots := 40, locals := 12 } : Room) (PreG E b [.ref x] 55 a F X) (PostG E b 55 a 56 (cF_Sheet_54 F) (cX_Sheet_54 X)) 1 40 (fun q => b ≤ q) := by
  refine met_ofG (by decide) rfl (Nat.le_of_ble_eq_true rfl) (fun p e s m below meth c C h ls hl => ?_)
  replace C : Cg p s m ([.ref x] : List Value).toArray meth c c_Sheet_init 1 "TideLoans$Sheet" E b := C
  replace hl : lv_has ls 1 [(0, .ref x)] := hl
  obtain ⟨hx, hb, hml, hown, hts, hrt, hlk, hKg, hnm⟩ := id C
  have hag : ∀ k, k < 55 → a k = a k := fun _ _ => rfl
  refine lv_aload_n hx hb d_Sheet_init_0 rfl (lv_at hl 0 rfl) ?_
  refine g_oinit C hl.1 tw_221 oi_inst oi_code (Nat.le_of_ble_eq_true rfl) (Nat.le_of_ble_eq_true rfl) d_Sheet_init_1 ?_
  refine lv_aload_n hx hb d_Sheet_init_4 rfl (lv_at hl 0 rfl) ?_
  refine lv_bipush (v := 40) hx hb d_Sheet_init_5 (by decide) ?_
  refine g_newP C h (atype := .long) (ty := .long) rfl (N := 40) (t0 := 2) (a0 := (40, .inr (.inl (fun _ => 0)))) (fr_L (N := 40) rfl (by decide)) (fun _ => rfl) rfl (fun _ q => by cases q) (by decide) (by decide) tw_235 (Nat.le_of_ble_eq_true rfl) (Nat.le_of_ble_eq_true rfl) (Nat.le_of_ble_eq_true rfl) d_Sheet_init_7 (fun q55 a1 H hq55 had h => ?_)
  have g54_1 : a1 54 = x := (had 54 (by decide)).trans hx0
  replace hag := ag_trans hag had (by decide)
  refine g_putR C h (k := 54) (q := 55) (by decide) (by decide) g54_1 hq55 rfl (rfl : cls[0]? = some (R_Sheet, T_Sheet, 3)) in_Sheet ty_Sheet tyok_Sheet nm_Sheet 0 (by decide) tw_222 rfl rfl rfl rfl (Nat.le_of_ble_eq_true rfl) rfl rfl d_Sheet_init_9 (fun H locs h => ?_)
  exact g_vret C h hag ⟨rfl, rfl, rfl⟩ d_Sheet_init_12
def cF_Sheet_56 (F : Fn) : Fn := (sF F 56 0 57)
def cX_Sheet_56 (X : Mem) : Mem := X
set_option maxHeartbeats 4000000 in
set_option maxRecDepth 100000 in
theorem kc_Sheet_56 {l : Launch} {E : En} {b : Nat} {a : Nat → Nat} {F : Fn} {X : Mem} {x : Nat} (hx0 : a 56 = x) : Met l y_Sheet_init (Cond.code y_Sheet_init c_Sheet_init 1 none :: tb) ({ frames := 1, cells := 1, slots := 40, locals := 12 } : Room) (PreG E b [.ref x] 57 a F X) (PostG E b 57 a 58 (cF_Sheet_56 F) (cX_Sheet_56 X)) 1 40 (fun q => b ≤ q) := by
  refine met_ofG (by decide) rfl (Nat.le_of_ble_eq_true rfl) (fun p e s m below meth c C h ls hl => ?_)
  replace C : Cg p s m ([.ref x] : List Value).toArray meth c c_Sheet_init 1 "TideLoans$Sheet" E b := C
  replace hl : lv_has ls 1 [(0, .ref x)] := hl
  obtain ⟨hx, hb, hml, hown, hts, hrt, hlk, hKg, hnm⟩ := id C
  have hag : ∀ k, k < 57 → a k = a k := fun _ _ => rfl
  refine lv_aload_n hx hb d_Sheet_init_0 rfl (lv_at hl 0 rfl) ?_
  refine g_oinit C hl.1 tw_221 oi_inst oi_code (Nat.le_of_ble_eq_true rfl) (Nat.le_of_ble_eq_true rfl) d_Sheet_init_1 ?_
  refine lv_aload_n hx hb d_Sheet_init_4 rfl (lv_at hl 0 rfl) ?_
  refine lv_bipush (v := 40) hx hb d_Sheet_init_5 (by decide) ?_
  refine g_newP C h (atype := .long) (ty := .long) rfl (N := 40) (t0 := 2) (a0 := (40, .inr (.inl (fun _ => 0)))) (fr_L (N := 40) rfl (by decide)) (fun _ => rfl) rfl (fun _ q => by cases q) (by decide) (by decide) tw_235 (Nat.le_of_ble_eq_true rfl) (Nat.le_of_ble_eq_true rfl) (Nat.le_of_ble_eq_true rfl) d_Sheet_init_7 (fun q57 a1 H hq57 had h => ?_)
  have g56_1 : a1 56 = x := (had 56 (by decide)).trans hx0
  replace hag := ag_trans hag had (by decide)
  refine g_putR C h (k := 56) (q := 57) (by decide) (by decide) g56_1 hq57 rfl (rfl : cls[0]? = some (R_Sheet, T_Sheet, 3)) in_Sheet ty_Sheet tyok_Sheet nm_Sheet 0 (by decide) tw_222 rfl rfl rfl rfl (Nat.le_of_ble_eq_true rfl) rfl rfl d_Sheet_init_9 (fun H locs h => ?_)
  exact g_vret C h hag ⟨rfl, rfl, rfl⟩ d_Sheet_init_12
def cF_Sheet_58 (F : Fn) : Fn := (sF F 58 0 59)
def cX_Sheet_58 (X : Mem) : Mem := X
set_option maxHeartbeats 4000000 in
set_option maxRecDepth 100000 in
theorem kc_Sheet_58 {l : Launch} {E : En} {b : Nat} {a : Nat → Nat} {F : Fn} {X : Mem} {x : Nat} (hx0 : a 58 = x) : Met l y_Sheet_init (Cond.code y_Sheet_init c_Sheet_init 1 none :: tb) ({ frames := 1, cells := 1, slots := 40, locals := 12 } : Room) (PreG E b [.ref x] 59 a F X) (PostG E b 59 a 60 (cF_Sheet_58 F) (cX_Sheet_58 X)) 1 40 (fun q => b ≤ q) := by
  refine met_ofG (by decide) rfl (Nat.le_of_ble_eq_true rfl) (fun p e s m below meth c C h ls hl => ?_)
  replace C : Cg p s m ([.ref x] : List Value).toArray meth c c_Sheet_init 1 "TideLoans$Sheet" E b := C
  replace hl : lv_has ls 1 [(0, .ref x)] := hl
  obtain ⟨hx, hb, hml, hown, hts, hrt, hlk, hKg, hnm⟩ := id C
  have hag : ∀ k, k < 59 → a k = a k := fun _ _ => rfl
  refine lv_aload_n hx hb d_Sheet_init_0 rfl (lv_at hl 0 rfl) ?_
  refine g_oinit C hl.1 tw_221 oi_inst oi_code (Nat.le_of_ble_eq_true rfl) (Nat.le_of_ble_eq_true rfl) d_Sheet_init_1 ?_
  refine lv_aload_n hx hb d_Sheet_init_4 rfl (lv_at hl 0 rfl) ?_
  refine lv_bipush (v := 40) hx hb d_Sheet_init_5 (by decide) ?_
  refine g_newP C h (atype := .long) (ty := .long) rfl (N := 40) (t0 := 2) (a0 := (40, .inr (.inl (fun _ => 0)))) (fr_L (N := 40) rfl (by decide)) (fun _ => rfl) rfl (fun _ q => by cases q) (by decide) (by decide) tw_235 (Nat.le_of_ble_eq_true rfl) (Nat.le_of_ble_eq_true rfl) (Nat.le_of_ble_eq_true rfl) d_Sheet_init_7 (fun q59 a1 H hq59 had h => ?_)
  have g58_1 : a1 58 = x := (had 58 (by decide)).trans hx0
  replace hag := ag_trans hag had (by decide)
  refine g_putR C h (k := 58) (q := 59) (by decide) (by decide) g58_1 hq59 rfl (rfl : cls[0]? = some (R_Sheet, T_Sheet, 3)) in_Sheet ty_Sheet tyok_Sheet nm_Sheet 0 (by decide) tw_222 rfl rfl rfl rfl (Nat.le_of_ble_eq_true rfl) rfl rfl d_Sheet_init_9 (fun H locs h => ?_)
  exact g_vret C h hag ⟨rfl, rfl, rfl⟩ d_Sheet_init_12
def cF_Tape_44 (F : Fn) : Fn := (sF F 44 0 45)
def cX_Tape_44 (X : Mem) : Mem := X
set_option maxHeartbeats 4000000 in
set_option maxRecDepth 100000 in
theorem kc_Tape_44 {l : Launch} {E : En} {b : Nat} {a : Nat → Nat} {F : Fn} {X : Mem} {x : Nat} (hx0 : a 44 = x) : Met l y_Tape_init (Cond.code y_Tape_init c_Tape_init 1 none :: tb) ({ frames := 1, cells := 1, slots := 120, locals := 12 } : Room) (PreG E b [.ref x] 45 a F X) (PostG E b 45 a 46 (cF_Tape_44 F) (cX_Tape_44 X)) 1 120 (fun q => b ≤ q) := by
  refine met_ofG (by decide) rfl (Nat.le_of_ble_eq_true rfl) (fun p e s m below meth c C h ls hl => ?_)
  replace C : Cg p s m ([.ref x] : List Value).toArray meth c c_Tape_init 1 "TideLoans$Tape" E b := C
  replace hl : lv_has ls 1 [(0, .ref x)] := hl
  obtain ⟨hx, hb, hml, hown, hts, hrt, hlk, hKg, hnm⟩ := id C
  have hag : ∀ k, k < 45 → a k = a k := fun _ _ => rfl
  refine lv_aload_n hx hb d_Tape_init_0 rfl (lv_at hl 0 rfl) ?_
  refine g_oinit C hl.1 tw_161 oi_inst oi_code (Nat.le_of_ble_eq_true rfl) (Nat.le_of_ble_eq_true rfl) d_Tape_init_1 ?_
  refine lv_aload_n hx hb d_Tape_init_4 rfl (lv_at hl 0 rfl) ?_
  refine lv_bipush (v := 120) hx hb d_Tape_init_5 (by decide) ?_
  refine g_newP C h (atype := .byte) (ty := .byte) rfl (N := 120) (t0 := 1) (a0 := (120, .inl (fun _ => 0))) (fr_B (N := 120) rfl (by decide)) (fun _ => rfl) rfl (fun _ q => by cases q) (by decide) (by decide) tw_185 (Nat.le_of_ble_eq_true rfl) (Nat.le_of_ble_eq_true rfl) (Nat.le_of_ble_eq_true rfl) d_Tape_init_7 (fun q45 a1 H hq45 had h => ?_)
  have g44_1 : a1 44 = x := (had 44 (by decide)).trans hx0
  replace hag := ag_trans hag had (by decide)
  refine g_putR C h (k := 44) (q := 45) (by decide) (by decide) g44_1 hq45 rfl (rfl : cls[2]? = some (R_Tape, T_Tape, 6)) in_Tape ty_Tape tyok_Tape nm_Tape 0 (by decide) tw_162 rfl rfl rfl rfl (Nat.le_of_ble_eq_true rfl) rfl rfl d_Tape_init_9 (fun H locs h => ?_)
  exact g_vret C h hag ⟨rfl, rfl, rfl⟩ d_Tape_init_12
def cF_Shore_2 (F : Fn) : Fn := (sF (sF (sF (sF (sF (sF (sF (sF (sF (sF (sF (sF (sF F 2 0 3) 2 1 4) 2 2 5) 5 0 6) 5 1 7) 5 2 8) 5 3 9) 5 4 10) 5 5 11) 5 6 12) 5 7 13) 5 8 14) 5 9 15)
def cX_Shore_2 (X : Mem) : Mem := (sI (sI (sI (sI (sI (sI (sI (sI (sI (sI (sI (sI (sI (sI (sI (sI (sI X 2 5 (2 : Int32)) 3 0 (0 : Int32)) 3 1 (1 : Int32)) 3 2 (2 : Int32)) 3 3 (3 : Int32)) 3 4 (4 : Int32)) 3 5 (5 : Int32)) 3 6 (6 : Int32)) 3 7 (7 : Int32)) 3 8 (8 : Int32)) 3 9 (9 : Int32)) 3 10 (0 : Int32)) 3 11 (1 : Int32)) 3 12 (2 : Int32)) 3 13 (3 : Int32)) 3 14 (4 : Int32)) 3 15 (5 : Int32))
set_option maxHeartbeats 4000000 in
set_option maxRecDepth 100000 in
theorem kc_Shore_2 {l : Launch} {E : En} {b : Nat} {a : Nat → Nat} {F : Fn} {X : Mem} {x : Nat} (hx0 : a 2 = x) : Met l y_Shore_init (Cond.code y_Shore_init c_Shore_init 2 none :: tb) ({ frames := 2, cells := 13, slots := 90, locals := 32 } : Room) (PreG E b [.ref x] 3 a F X) (PostG E b 3 a 16 (cF_Shore_2 F) (cX_Shore_2 X)) 13 90 (fun q => b ≤ q) := by
  refine met_ofG (by decide) rfl (Nat.le_of_ble_eq_true rfl) (fun p e s m below meth c C h ls hl => ?_)
  replace C : Cg p s m ([.ref x] : List Value).toArray meth c c_Shore_init 2 "TideLoans$Shore" E b := C
  replace hl : lv_has ls 2 [(0, .ref x)] := hl
  obtain ⟨hx, hb, hml, hown, hts, hrt, hlk, hKg, hnm⟩ := id C
  have hag : ∀ k, k < 3 → a k = a k := fun _ _ => rfl
  refine lv_aload_n hx hb d_Shore_init_0 rfl (lv_at hl 0 rfl) ?_
  refine g_oinit C hl.1 tw_91 oi_inst oi_code (Nat.le_of_ble_eq_true rfl) (Nat.le_of_ble_eq_true rfl) d_Shore_init_1 ?_
  refine lv_aload_n hx hb d_Shore_init_4 rfl (lv_at hl 0 rfl) ?_
  refine lv_bipush (v := 16) hx hb d_Shore_init_5 (by decide) ?_
  refine g_newP C h (atype := .int) (ty := .int) rfl (N := 16) (t0 := 0) (a0 := (16, .inl (fun _ => 0))) (fr_I (N := 16) rfl (by decide)) (fun _ => rfl) rfl (fun _ q => by cases q) (by decide) (by decide) tw_130 (Nat.le_of_ble_eq_true rfl) (Nat.le_of_ble_eq_true rfl) (Nat.le_of_ble_eq_true rfl) d_Shore_init_7 (fun q3 a1 H hq3 had h => ?_)
  have g2_1 : a1 2 = x := (had 2 (by decide)).trans hx0
  replace hag := ag_trans hag had (by decide)
  refine g_putR C h (k := 2) (q := 3) (by decide) (by decide) g2_1 hq3 rfl (rfl : cls[1]? = some (R_Shore, T_Shore, 6)) in_Shore ty_Shore tyok_Shore nm_Shore 0 (by decide) tw_131 rfl rfl rfl rfl (Nat.le_of_ble_eq_true rfl) rfl rfl d_Shore_init_9 (fun H locs h => ?_)
  refine lv_aload_n hx hb d_Shore_init_12 rfl (lv_at hl 0 rfl) ?_
  refine lv_iconst (v := 4) hx hb d_Shore_init_13 (by decide) ?_
  refine g_newP C h (atype := .int) (ty := .int) rfl (N := 4) (t0 := 0) (a0 := (4, .inl (fun _ => 0))) (fr_I (N := 4) rfl (by decide)) (fun _ => rfl) rfl (fun _ q => by cases q) (by decide) (by decide) tw_130 (Nat.le_of_ble_eq_true rfl) (Nat.le_of_ble_eq_true rfl) (Nat.le_of_ble_eq_true rfl) d_Shore_init_14 (fun q4 a2 H hq4 had h => ?_)
  have g2_2 : a2 2 = x := (had 2 (by decide)).trans g2_1
  have g3_2 : a2 3 = q3 := (had 3 (by decide)).trans hq3
  replace hag := ag_trans hag had (by decide)
  refine g_putR C h (k := 2) (q := 4) (by decide) (by decide) g2_2 hq4 rfl (rfl : cls[1]? = some (R_Shore, T_Shore, 6)) in_Shore ty_Shore tyok_Shore nm_Shore 1 (by decide) tw_133 rfl rfl rfl rfl (Nat.le_of_ble_eq_true rfl) rfl rfl d_Shore_init_16 (fun H locs h => ?_)
  refine lv_aload_n hx hb d_Shore_init_19 rfl (lv_at hl 0 rfl) ?_
  refine lv_bipush (v := 10) hx hb d_Shore_init_20 (by decide) ?_
  refine g_newR C h (N := 10) (t0 := 3) (Cn := "TideLoans$Thing") (fr_RT rfl) rfl (fun q => q.1) (by decide) (by decide) tw_92 (Nat.le_of_ble_eq_true rfl) (Nat.le_of_ble_eq_true rfl) d_Shore_init_22 (fun q5 a3 H hq5 had h => ?_)
  have g2_3 : a3 2 = x := (had 2 (by decide)).trans g2_2
  have g3_3 : a3 3 = q3 := (had 3 (by decide)).trans g3_2
  replace hag := ag_trans hag had (by decide)
  refine g_putR C h (k := 2) (q := 5) (by decide) (by decide) g2_3 hq5 rfl (rfl : cls[1]? = some (R_Shore, T_Shore, 6)) in_Shore ty_Shore tyok_Shore nm_Shore 2 (by decide) tw_135 rfl rfl rfl rfl (Nat.le_of_ble_eq_true rfl) rfl rfl d_Shore_init_25 (fun H locs h => ?_)
  refine lv_aload_n hx hb d_Shore_init_28 rfl (lv_at hl 0 rfl) ?_
  refine lv_iconst (v := 2) hx hb d_Shore_init_29 (by decide) ?_
  refine g_putI C h (k := 2) (by decide) g2_3 rfl (rfl : cls[1]? = some (R_Shore, T_Shore, 6)) in_Shore ty_Shore tyok_Shore nm_Shore 5 (by decide) tw_141 rfl rfl rfl (Nat.le_of_ble_eq_true rfl) rfl rfl d_Shore_init_30 (fun H locs h => ?_)
  refine lv_iconst (v := 0) hx hb d_Shore_init_33 (by decide) ?_
  refine lv_istore_n (lv' := [(1, .int (0 : Int32)), (0, .ref x)]) hx hb d_Shore_init_34 rfl hl (by decide) rfl (fun ls hl => ?_)
  refine lv_iload_n hx hb d_Shore_init_35 rfl (lv_at hl 0 rfl) ?_
  refine lv_bipush (v := 16) hx hb d_Shore_init_36 (by decide) ?_
  refine lv_icmp_ge (tgt := 57) hx hb d_Shore_init_38 (by decide) (fun q => absurd q (by decide)) (fun _ => ?_)
  refine lv_aload_n hx hb d_Shore_init_41 rfl (lv_at hl 1 rfl) ?_
  refine g_get C h (k := 2) (q := 3) (by decide) g2_3 rfl (rfl : cls[1]? = some (R_Shore, T_Shore, 6)) in_Shore 0 (by decide) tw_131 rfl rfl g3_3 d_Shore_init_42 ?_
  refine lv_iload_n hx hb d_Shore_init_45 rfl (lv_at hl 0 rfl) ?_
  refine lv_iload_n hx hb d_Shore_init_46 rfl (lv_at hl 0 rfl) ?_
  refine lv_bipush (v := 10) hx hb d_Shore_init_47 (by decide) ?_
  refine lv_irem hx hb d_Shore_init_49 (by decide) ?_
  refine lv_topi (fun z4 hz4 => ?_)
  replace hz4 : z4 = 0 := hz4.trans (by decide)
  subst hz4
  refine g_stI C h (k := 3) (N := 16) (by decide) g3_3 rfl (by decide) (i0 := 0) (by decide) (by decide) d_Shore_init_50 (fun H locs h => ?_)
  refine lv_iinc (v := 1) (lv' := [(1, .int (1 : Int32)), (0, .ref x)]) hx hb d_Shore_init_51 hl (k := 0) rfl (by decide) (by decide) rfl (fun ls hl => ?_)
  refine lv_goto (tgt := 35) hx hb d_Shore_init_54 (by decide) ?_
  refine lv_iload_n hx hb d_Shore_init_35 rfl (lv_at hl 0 rfl) ?_
  refine lv_bipush (v := 16) hx hb d_Shore_init_36 (by decide) ?_
  refine lv_icmp_ge (tgt := 57) hx hb d_Shore_init_38 (by decide) (fun q => absurd q (by decide)) (fun _ => ?_)
  refine lv_aload_n hx hb d_Shore_init_41 rfl (lv_at hl 1 rfl) ?_
  refine g_get C h (k := 2) (q := 3) (by decide) g2_3 rfl (rfl : cls[1]? = some (R_Shore, T_Shore, 6)) in_Shore 0 (by decide) tw_131 rfl rfl g3_3 d_Shore_init_42 ?_
  refine lv_iload_n hx hb d_Shore_init_45 rfl (lv_at hl 0 rfl) ?_
  refine lv_iload_n hx hb d_Shore_init_46 rfl (lv_at hl 0 rfl) ?_
  refine lv_bipush (v := 10) hx hb d_Shore_init_47 (by decide) ?_
  refine lv_irem hx hb d_Shore_init_49 (by decide) ?_
  refine lv_topi (fun z5 hz5 => ?_)
  replace hz5 : z5 = 1 := hz5.trans (by decide)
  subst hz5
  refine g_stI C h (k := 3) (N := 16) (by decide) g3_3 rfl (by decide) (i0 := 1) (by decide) (by decide) d_Shore_init_50 (fun H locs h => ?_)
  refine lv_iinc (v := 2) (lv' := [(1, .int (2 : Int32)), (0, .ref x)]) hx hb d_Shore_init_51 hl (k := 0) rfl (by decide) (by decide) rfl (fun ls hl => ?_)
  refine lv_goto (tgt := 35) hx hb d_Shore_init_54 (by decide) ?_
  refine lv_iload_n hx hb d_Shore_init_35 rfl (lv_at hl 0 rfl) ?_
  refine lv_bipush (v := 16) hx hb d_Shore_init_36 (by decide) ?_
  refine lv_icmp_ge (tgt := 57) hx hb d_Shore_init_38 (by decide) (fun q => absurd q (by decide)) (fun _ => ?_)
  refine lv_aload_n hx hb d_Shore_init_41 rfl (lv_at hl 1 rfl) ?_
  refine g_get C h (k := 2) (q := 3) (by decide) g2_3 rfl (rfl : cls[1]? = some (R_Shore, T_Shore, 6)) in_Shore 0 (by decide) tw_131 rfl rfl g3_3 d_Shore_init_42 ?_
  refine lv_iload_n hx hb d_Shore_init_45 rfl (lv_at hl 0 rfl) ?_
  refine lv_iload_n hx hb d_Shore_init_46 rfl (lv_at hl 0 rfl) ?_
  refine lv_bipush (v := 10) hx hb d_Shore_init_47 (by decide) ?_
  refine lv_irem hx hb d_Shore_init_49 (by decide) ?_
  refine lv_topi (fun z6 hz6 => ?_)
  replace hz6 : z6 = 2 := hz6.trans (by decide)
  subst hz6
  refine g_stI C h (k := 3) (N := 16) (by decide) g3_3 rfl (by decide) (i0 := 2) (by decide) (by decide) d_Shore_init_50 (fun H locs h => ?_)
  refine lv_iinc (v := 3) (lv' := [(1, .int (3 : Int32)), (0, .ref x)]) hx hb d_Shore_init_51 hl (k := 0) rfl (by decide) (by decide) rfl (fun ls hl => ?_)
  refine lv_goto (tgt := 35) hx hb d_Shore_init_54 (by decide) ?_
  refine lv_iload_n hx hb d_Shore_init_35 rfl (lv_at hl 0 rfl) ?_
  refine lv_bipush (v := 16) hx hb d_Shore_init_36 (by decide) ?_
  refine lv_icmp_ge (tgt := 57) hx hb d_Shore_init_38 (by decide) (fun q => absurd q (by decide)) (fun _ => ?_)
  refine lv_aload_n hx hb d_Shore_init_41 rfl (lv_at hl 1 rfl) ?_
  refine g_get C h (k := 2) (q := 3) (by decide) g2_3 rfl (rfl : cls[1]? = some (R_Shore, T_Shore, 6)) in_Shore 0 (by decide) tw_131 rfl rfl g3_3 d_Shore_init_42 ?_
  refine lv_iload_n hx hb d_Shore_init_45 rfl (lv_at hl 0 rfl) ?_
  refine lv_iload_n hx hb d_Shore_init_46 rfl (lv_at hl 0 rfl) ?_
  refine lv_bipush (v := 10) hx hb d_Shore_init_47 (by decide) ?_
  refine lv_irem hx hb d_Shore_init_49 (by decide) ?_
  refine lv_topi (fun z7 hz7 => ?_)
  replace hz7 : z7 = 3 := hz7.trans (by decide)
  subst hz7
  refine g_stI C h (k := 3) (N := 16) (by decide) g3_3 rfl (by decide) (i0 := 3) (by decide) (by decide) d_Shore_init_50 (fun H locs h => ?_)
  refine lv_iinc (v := 4) (lv' := [(1, .int (4 : Int32)), (0, .ref x)]) hx hb d_Shore_init_51 hl (k := 0) rfl (by decide) (by decide) rfl (fun ls hl => ?_)
  refine lv_goto (tgt := 35) hx hb d_Shore_init_54 (by decide) ?_
  refine lv_iload_n hx hb d_Shore_init_35 rfl (lv_at hl 0 rfl) ?_
  refine lv_bipush (v := 16) hx hb d_Shore_init_36 (by decide) ?_
  refine lv_icmp_ge (tgt := 57) hx hb d_Shore_init_38 (by decide) (fun q => absurd q (by decide)) (fun _ => ?_)
  refine lv_aload_n hx hb d_Shore_init_41 rfl (lv_at hl 1 rfl) ?_
  refine g_get C h (k := 2) (q := 3) (by decide) g2_3 rfl (rfl : cls[1]? = some (R_Shore, T_Shore, 6)) in_Shore 0 (by decide) tw_131 rfl rfl g3_3 d_Shore_init_42 ?_
  refine lv_iload_n hx hb d_Shore_init_45 rfl (lv_at hl 0 rfl) ?_
  refine lv_iload_n hx hb d_Shore_init_46 rfl (lv_at hl 0 rfl) ?_
  refine lv_bipush (v := 10) hx hb d_Shore_init_47 (by decide) ?_
  refine lv_irem hx hb d_Shore_init_49 (by decide) ?_
  refine lv_topi (fun z8 hz8 => ?_)
  replace hz8 : z8 = 4 := hz8.trans (by decide)
  subst hz8
  refine g_stI C h (k := 3) (N := 16) (by decide) g3_3 rfl (by decide) (i0 := 4) (by decide) (by decide) d_Shore_init_50 (fun H locs h => ?_)
  refine lv_iinc (v := 5) (lv' := [(1, .int (5 : Int32)), (0, .ref x)]) hx hb d_Shore_init_51 hl (k := 0) rfl (by decide) (by decide) rfl (fun ls hl => ?_)
  refine lv_goto (tgt := 35) hx hb d_Shore_init_54 (by decide) ?_
  refine lv_iload_n hx hb d_Shore_init_35 rfl (lv_at hl 0 rfl) ?_
  refine lv_bipush (v := 16) hx hb d_Shore_init_36 (by decide) ?_
  refine lv_icmp_ge (tgt := 57) hx hb d_Shore_init_38 (by decide) (fun q => absurd q (by decide)) (fun _ => ?_)
  refine lv_aload_n hx hb d_Shore_init_41 rfl (lv_at hl 1 rfl) ?_
  refine g_get C h (k := 2) (q := 3) (by decide) g2_3 rfl (rfl : cls[1]? = some (R_Shore, T_Shore, 6)) in_Shore 0 (by decide) tw_131 rfl rfl g3_3 d_Shore_init_42 ?_
  refine lv_iload_n hx hb d_Shore_init_45 rfl (lv_at hl 0 rfl) ?_
  refine lv_iload_n hx hb d_Shore_init_46 rfl (lv_at hl 0 rfl) ?_
  refine lv_bipush (v := 10) hx hb d_Shore_init_47 (by decide) ?_
  refine lv_irem hx hb d_Shore_init_49 (by decide) ?_
  refine lv_topi (fun z9 hz9 => ?_)
  replace hz9 : z9 = 5 := hz9.trans (by decide)
  subst hz9
  refine g_stI C h (k := 3) (N := 16) (by decide) g3_3 rfl (by decide) (i0 := 5) (by decide) (by decide) d_Shore_init_50 (fun H locs h => ?_)
  refine lv_iinc (v := 6) (lv' := [(1, .int (6 : Int32)), (0, .ref x)]) hx hb d_Shore_init_51 hl (k := 0) rfl (by decide) (by decide) rfl (fun ls hl => ?_)
  refine lv_goto (tgt := 35) hx hb d_Shore_init_54 (by decide) ?_
  refine lv_iload_n hx hb d_Shore_init_35 rfl (lv_at hl 0 rfl) ?_
  refine lv_bipush (v := 16) hx hb d_Shore_init_36 (by decide) ?_
  refine lv_icmp_ge (tgt := 57) hx hb d_Shore_init_38 (by decide) (fun q => absurd q (by decide)) (fun _ => ?_)
  refine lv_aload_n hx hb d_Shore_init_41 rfl (lv_at hl 1 rfl) ?_
  refine g_get C h (k := 2) (q := 3) (by decide) g2_3 rfl (rfl : cls[1]? = some (R_Shore, T_Shore, 6)) in_Shore 0 (by decide) tw_131 rfl rfl g3_3 d_Shore_init_42 ?_
  refine lv_iload_n hx hb d_Shore_init_45 rfl (lv_at hl 0 rfl) ?_
  refine lv_iload_n hx hb d_Shore_init_46 rfl (lv_at hl 0 rfl) ?_
  refine lv_bipush (v := 10) hx hb d_Shore_init_47 (by decide) ?_
  refine lv_irem hx hb d_Shore_init_49 (by decide) ?_
  refine lv_topi (fun z10 hz10 => ?_)
  replace hz10 : z10 = 6 := hz10.trans (by decide)
  subst hz10
  refine g_stI C h (k := 3) (N := 16) (by decide) g3_3 rfl (by decide) (i0 := 6) (by decide) (by decide) d_Shore_init_50 (fun H locs h => ?_)
  refine lv_iinc (v := 7) (lv' := [(1, .int (7 : Int32)), (0, .ref x)]) hx hb d_Shore_init_51 hl (k := 0) rfl (by decide) (by decide) rfl (fun ls hl => ?_)
  refine lv_goto (tgt := 35) hx hb d_Shore_init_54 (by decide) ?_
  refine lv_iload_n hx hb d_Shore_init_35 rfl (lv_at hl 0 rfl) ?_
  refine lv_bipush (v := 16) hx hb d_Shore_init_36 (by decide) ?_
  refine lv_icmp_ge (tgt := 57) hx hb d_Shore_init_38 (by decide) (fun q => absurd q (by decide)) (fun _ => ?_)
  refine lv_aload_n hx hb d_Shore_init_41 rfl (lv_at hl 1 rfl) ?_
  refine g_get C h (k := 2) (q := 3) (by decide) g2_3 rfl (rfl : cls[1]? = some (R_Shore, T_Shore, 6)) in_Shore 0 (by decide) tw_131 rfl rfl g3_3 d_Shore_init_42 ?_
  refine lv_iload_n hx hb d_Shore_init_45 rfl (lv_at hl 0 rfl) ?_
  refine lv_iload_n hx hb d_Shore_init_46 rfl (lv_at hl 0 rfl) ?_
  refine lv_bipush (v := 10) hx hb d_Shore_init_47 (by decide) ?_
  refine lv_irem hx hb d_Shore_init_49 (by decide) ?_
  refine lv_topi (fun z11 hz11 => ?_)
  replace hz11 : z11 = 7 := hz11.trans (by decide)
  subst hz11
  refine g_stI C h (k := 3) (N := 16) (by decide) g3_3 rfl (by decide) (i0 := 7) (by decide) (by decide) d_Shore_init_50 (fun H locs h => ?_)
  refine lv_iinc (v := 8) (lv' := [(1, .int (8 : Int32)), (0, .ref x)]) hx hb d_Shore_init_51 hl (k := 0) rfl (by decide) (by decide) rfl (fun ls hl => ?_)
  refine lv_goto (tgt := 35) hx hb d_Shore_init_54 (by decide) ?_
  refine lv_iload_n hx hb d_Shore_init_35 rfl (lv_at hl 0 rfl) ?_
  refine lv_bipush (v := 16) hx hb d_Shore_init_36 (by decide) ?_
  refine lv_icmp_ge (tgt := 57) hx hb d_Shore_init_38 (by decide) (fun q => absurd q (by decide)) (fun _ => ?_)
  refine lv_aload_n hx hb d_Shore_init_41 rfl (lv_at hl 1 rfl) ?_
  refine g_get C h (k := 2) (q := 3) (by decide) g2_3 rfl (rfl : cls[1]? = some (R_Shore, T_Shore, 6)) in_Shore 0 (by decide) tw_131 rfl rfl g3_3 d_Shore_init_42 ?_
  refine lv_iload_n hx hb d_Shore_init_45 rfl (lv_at hl 0 rfl) ?_
  refine lv_iload_n hx hb d_Shore_init_46 rfl (lv_at hl 0 rfl) ?_
  refine lv_bipush (v := 10) hx hb d_Shore_init_47 (by decide) ?_
  refine lv_irem hx hb d_Shore_init_49 (by decide) ?_
  refine lv_topi (fun z12 hz12 => ?_)
  replace hz12 : z12 = 8 := hz12.trans (by decide)
  subst hz12
  refine g_stI C h (k := 3) (N := 16) (by decide) g3_3 rfl (by decide) (i0 := 8) (by decide) (by decide) d_Shore_init_50 (fun H locs h => ?_)
  refine lv_iinc (v := 9) (lv' := [(1, .int (9 : Int32)), (0, .ref x)]) hx hb d_Shore_init_51 hl (k := 0) rfl (by decide) (by decide) rfl (fun ls hl => ?_)
  refine lv_goto (tgt := 35) hx hb d_Shore_init_54 (by decide) ?_
  refine lv_iload_n hx hb d_Shore_init_35 rfl (lv_at hl 0 rfl) ?_
  refine lv_bipush (v := 16) hx hb d_Shore_init_36 (by decide) ?_
  refine lv_icmp_ge (tgt := 57) hx hb d_Shore_init_38 (by decide) (fun q => absurd q (by decide)) (fun _ => ?_)
  refine lv_aload_n hx hb d_Shore_init_41 rfl (lv_at hl 1 rfl) ?_
  refine g_get C h (k := 2) (q := 3) (by decide) g2_3 rfl (rfl : cls[1]? = some (R_Shore, T_Shore, 6)) in_Shore 0 (by decide) tw_131 rfl rfl g3_3 d_Shore_init_42 ?_
  refine lv_iload_n hx hb d_Shore_init_45 rfl (lv_at hl 0 rfl) ?_
  refine lv_iload_n hx hb d_Shore_init_46 rfl (lv_at hl 0 rfl) ?_
  refine lv_bipush (v := 10) hx hb d_Shore_init_47 (by decide) ?_
  refine lv_irem hx hb d_Shore_init_49 (by decide) ?_
  refine lv_topi (fun z13 hz13 => ?_)
  replace hz13 : z13 = 9 := hz13.trans (by decide)
  subst hz13
  refine g_stI C h (k := 3) (N := 16) (by decide) g3_3 rfl (by decide) (i0 := 9) (by decide) (by decide) d_Shore_init_50 (fun H locs h => ?_)
  refine lv_iinc (v := 10) (lv' := [(1, .int (10 : Int32)), (0, .ref x)]) hx hb d_Shore_init_51 hl (k := 0) rfl (by decide) (by decide) rfl (fun ls hl => ?_)
  refine lv_goto (tgt := 35) hx hb d_Shore_init_54 (by decide) ?_
  refine lv_iload_n hx hb d_Shore_init_35 rfl (lv_at hl 0 rfl) ?_
  refine lv_bipush (v := 16) hx hb d_Shore_init_36 (by decide) ?_
  refine lv_icmp_ge (tgt := 57) hx hb d_Shore_init_38 (by decide) (fun q => absurd q (by decide)) (fun _ => ?_)
  refine lv_aload_n hx hb d_Shore_init_41 rfl (lv_at hl 1 rfl) ?_
  refine g_get C h (k := 2) (q := 3) (by decide) g2_3 rfl (rfl : cls[1]? = some (R_Shore, T_Shore, 6)) in_Shore 0 (by decide) tw_131 rfl rfl g3_3 d_Shore_init_42 ?_
  refine lv_iload_n hx hb d_Shore_init_45 rfl (lv_at hl 0 rfl) ?_
  refine lv_iload_n hx hb d_Shore_init_46 rfl (lv_at hl 0 rfl) ?_
  refine lv_bipush (v := 10) hx hb d_Shore_init_47 (by decide) ?_
  refine lv_irem hx hb d_Shore_init_49 (by decide) ?_
  refine lv_topi (fun z14 hz14 => ?_)
  replace hz14 : z14 = 0 := hz14.trans (by decide)
  subst hz14
  refine g_stI C h (k := 3) (N := 16) (by decide) g3_3 rfl (by decide) (i0 := 10) (by decide) (by decide) d_Shore_init_50 (fun H locs h => ?_)
  refine lv_iinc (v := 11) (lv' := [(1, .int (11 : Int32)), (0, .ref x)]) hx hb d_Shore_init_51 hl (k := 0) rfl (by decide) (by decide) rfl (fun ls hl => ?_)
  refine lv_goto (tgt := 35) hx hb d_Shore_init_54 (by decide) ?_
  refine lv_iload_n hx hb d_Shore_init_35 rfl (lv_at hl 0 rfl) ?_
  refine lv_bipush (v := 16) hx hb d_Shore_init_36 (by decide) ?_
  refine lv_icmp_ge (tgt := 57) hx hb d_Shore_init_38 (by decide) (fun q => absurd q (by decide)) (fun _ => ?_)
  refine lv_aload_n hx hb d_Shore_init_41 rfl (lv_at hl 1 rfl) ?_
  refine g_get C h (k := 2) (q := 3) (by decide) g2_3 rfl (rfl : cls[1]? = some (R_Shore, T_Shore, 6)) in_Shore 0 (by decide) tw_131 rfl rfl g3_3 d_Shore_init_42 ?_
  refine lv_iload_n hx hb d_Shore_init_45 rfl (lv_at hl 0 rfl) ?_
  refine lv_iload_n hx hb d_Shore_init_46 rfl (lv_at hl 0 rfl) ?_
  refine lv_bipush (v := 10) hx hb d_Shore_init_47 (by decide) ?_
  refine lv_irem hx hb d_Shore_init_49 (by decide) ?_
  refine lv_topi (fun z15 hz15 => ?_)
  replace hz15 : z15 = 1 := hz15.trans (by decide)
  subst hz15
  refine g_stI C h (k := 3) (N := 16) (by decide) g3_3 rfl (by decide) (i0 := 11) (by decide) (by decide) d_Shore_init_50 (fun H locs h => ?_)
  refine lv_iinc (v := 12) (lv' := [(1, .int (12 : Int32)), (0, .ref x)]) hx hb d_Shore_init_51 hl (k := 0) rfl (by decide) (by decide) rfl (fun ls hl => ?_)
  refine lv_goto (tgt := 35) hx hb d_Shore_init_54 (by decide) ?_
  refine lv_iload_n hx hb d_Shore_init_35 rfl (lv_at hl 0 rfl) ?_
  refine lv_bipush (v := 16) hx hb d_Shore_init_36 (by decide) ?_
  refine lv_icmp_ge (tgt := 57) hx hb d_Shore_init_38 (by decide) (fun q => absurd q (by decide)) (fun _ => ?_)
  refine lv_aload_n hx hb d_Shore_init_41 rfl (lv_at hl 1 rfl) ?_
  refine g_get C h (k := 2) (q := 3) (by decide) g2_3 rfl (rfl : cls[1]? = some (R_Shore, T_Shore, 6)) in_Shore 0 (by decide) tw_131 rfl rfl g3_3 d_Shore_init_42 ?_
  refine lv_iload_n hx hb d_Shore_init_45 rfl (lv_at hl 0 rfl) ?_
  refine lv_iload_n hx hb d_Shore_init_46 rfl (lv_at hl 0 rfl) ?_
  refine lv_bipush (v := 10) hx hb d_Shore_init_47 (by decide) ?_
  refine lv_irem hx hb d_Shore_init_49 (by decide) ?_
  refine lv_topi (fun z16 hz16 => ?_)
  replace hz16 : z16 = 2 := hz16.trans (by decide)
  subst hz16
  refine g_stI C h (k := 3) (N := 16) (by decide) g3_3 rfl (by decide) (i0 := 12) (by decide) (by decide) d_Shore_init_50 (fun H locs h => ?_)
  refine lv_iinc (v := 13) (lv' := [(1, .int (13 : Int32)), (0, .ref x)]) hx hb d_Shore_init_51 hl (k := 0) rfl (by decide) (by decide) rfl (fun ls hl => ?_)
  refine lv_goto (tgt := 35) hx hb d_Shore_init_54 (by decide) ?_
  refine lv_iload_n hx hb d_Shore_init_35 rfl (lv_at hl 0 rfl) ?_
  refine lv_bipush (v := 16) hx hb d_Shore_init_36 (by decide) ?_
  refine lv_icmp_ge (tgt := 57) hx hb d_Shore_init_38 (by decide) (fun q => absurd q (by decide)) (fun _ => ?_)
  refine lv_aload_n hx hb d_Shore_init_41 rfl (lv_at hl 1 rfl) ?_
  refine g_get C h (k := 2) (q := 3) (by decide) g2_3 rfl (rfl : cls[1]? = some (R_Shore, T_Shore, 6)) in_Shore 0 (by decide) tw_131 rfl rfl g3_3 d_Shore_init_42 ?_
  refine lv_iload_n hx hb d_Shore_init_45 rfl (lv_at hl 0 rfl) ?_
  refine lv_iload_n hx hb d_Shore_init_46 rfl (lv_at hl 0 rfl) ?_
  refine lv_bipush (v := 10) hx hb d_Shore_init_47 (by decide) ?_
  refine lv_irem hx hb d_Shore_init_49 (by decide) ?_
  refine lv_topi (fun z17 hz17 => ?_)
  replace hz17 : z17 = 3 := hz17.trans (by decide)
  subst hz17
  refine g_stI C h (k := 3) (N := 16) (by decide) g3_3 rfl (by decide) (i0 := 13) (by decide) (by decide) d_Shore_init_50 (fun H locs h => ?_)
  refine lv_iinc (v := 14) (lv' := [(1, .int (14 : Int32)), (0, .ref x)]) hx hb d_Shore_init_51 hl (k := 0) rfl (by decide) (by decide) rfl (fun ls hl => ?_)
  refine lv_goto (tgt := 35) hx hb d_Shore_init_54 (by decide) ?_
  refine lv_iload_n hx hb d_Shore_init_35 rfl (lv_at hl 0 rfl) ?_
  refine lv_bipush (v := 16) hx hb d_Shore_init_36 (by decide) ?_
  refine lv_icmp_ge (tgt := 57) hx hb d_Shore_init_38 (by decide) (fun q => absurd q (by decide)) (fun _ => ?_)
  refine lv_aload_n hx hb d_Shore_init_41 rfl (lv_at hl 1 rfl) ?_
  refine g_get C h (k := 2) (q := 3) (by decide) g2_3 rfl (rfl : cls[1]? = some (R_Shore, T_Shore, 6)) in_Shore 0 (by decide) tw_131 rfl rfl g3_3 d_Shore_init_42 ?_
  refine lv_iload_n hx hb d_Shore_init_45 rfl (lv_at hl 0 rfl) ?_
  refine lv_iload_n hx hb d_Shore_init_46 rfl (lv_at hl 0 rfl) ?_
  refine lv_bipush (v := 10) hx hb d_Shore_init_47 (by decide) ?_
  refine lv_irem hx hb d_Shore_init_49 (by decide) ?_
  refine lv_topi (fun z18 hz18 => ?_)
  replace hz18 : z18 = 4 := hz18.trans (by decide)
  subst hz18
  refine g_stI C h (k := 3) (N := 16) (by decide) g3_3 rfl (by decide) (i0 := 14) (by decide) (by decide) d_Shore_init_50 (fun H locs h => ?_)
  refine lv_iinc (v := 15) (lv' := [(1, .int (15 : Int32)), (0, .ref x)]) hx hb d_Shore_init_51 hl (k := 0) rfl (by decide) (by decide) rfl (fun ls hl => ?_)
  refine lv_goto (tgt := 35) hx hb d_Shore_init_54 (by decide) ?_
  refine lv_iload_n hx hb d_Shore_init_35 rfl (lv_at hl 0 rfl) ?_
  refine lv_bipush (v := 16) hx hb d_Shore_init_36 (by decide) ?_
  refine lv_icmp_ge (tgt := 57) hx hb d_Shore_init_38 (by decide) (fun q => absurd q (by decide)) (fun _ => ?_)
  refine lv_aload_n hx hb d_Shore_init_41 rfl (lv_at hl 1 rfl) ?_
  refine g_get C h (k := 2) (q := 3) (by decide) g2_3 rfl (rfl : cls[1]? = some (R_Shore, T_Shore, 6)) in_Shore 0 (by decide) tw_131 rfl rfl g3_3 d_Shore_init_42 ?_
  refine lv_iload_n hx hb d_Shore_init_45 rfl (lv_at hl 0 rfl) ?_
  refine lv_iload_n hx hb d_Shore_init_46 rfl (lv_at hl 0 rfl) ?_
  refine lv_bipush (v := 10) hx hb d_Shore_init_47 (by decide) ?_
  refine lv_irem hx hb d_Shore_init_49 (by decide) ?_
  refine lv_topi (fun z19 hz19 => ?_)
  replace hz19 : z19 = 5 := hz19.trans (by decide)
  subst hz19
  refine g_stI C h (k := 3) (N := 16) (by decide) g3_3 rfl (by decide) (i0 := 15) (by decide) (by decide) d_Shore_init_50 (fun H locs h => ?_)
  refine lv_iinc (v := 16) (lv' := [(1, .int (16 : Int32)), (0, .ref x)]) hx hb d_Shore_init_51 hl (k := 0) rfl (by decide) (by decide) rfl (fun ls hl => ?_)
  refine lv_goto (tgt := 35) hx hb d_Shore_init_54 (by decide) ?_
  refine lv_iload_n hx hb d_Shore_init_35 rfl (lv_at hl 0 rfl) ?_
  refine lv_bipush (v := 16) hx hb d_Shore_init_36 (by decide) ?_
  refine lv_icmp_ge (tgt := 57) hx hb d_Shore_init_38 (by decide) (fun _ => ?_) (fun q => absurd (by decide) q)
  refine lv_iconst (v := 0) hx hb d_Shore_init_57 (by decide) ?_
  refine lv_istore_n (lv' := [(1, .int (0 : Int32)), (0, .ref x)]) hx hb d_Shore_init_58 rfl hl (by decide) rfl (fun ls hl => ?_)
  refine lv_iload_n hx hb d_Shore_init_59 rfl (lv_at hl 0 rfl) ?_
  refine lv_bipush (v := 10) hx hb d_Shore_init_60 (by decide) ?_
  refine lv_icmp_ge (tgt := 84) hx hb d_Shore_init_62 (by decide) (fun q => absurd q (by decide)) (fun _ => ?_)
  refine lv_aload_n hx hb d_Shore_init_65 rfl (lv_at hl 1 rfl) ?_
  refine g_get C h (k := 2) (q := 5) (by decide) g2_3 rfl (rfl : cls[1]? = some (R_Shore, T_Shore, 6)) in_Shore 2 (by decide) tw_135 rfl rfl hq5 d_Shore_init_66 ?_
  refine lv_iload_n hx hb d_Shore_init_69 rfl (lv_at hl 0 rfl) ?_
  refine g_new C h (N := 6) (ci := 3) in_Thing ty_Thing tyok_Thing tw_92 tw_94 tw_66 rfl (fr_Thing rfl) df_Thing (Nat.le_of_ble_eq_true rfl) (Nat.le_of_ble_eq_true rfl) d_Shore_init_70 (fun q6 a20 H hq6 had h => ?_)
  have g2_20 : a20 2 = x := (had 2 (by decide)).trans g2_3
  have g3_20 : a20 3 = q3 := (had 3 (by decide)).trans g3_3
  have g5_20 : a20 5 = q5 := (had 5 (by decide)).trans hq5
  replace hag := ag_trans hag had (by decide)
  refine lv_dup hx hb d_Shore_init_73 rfl ?_
  refine g_callN C h (kc_Thing (n := 7)) cw_Thing_init ini_Thing_init ins_Thing_init rfl tw_95 hd_Thing_init ⟨⟨rfl, rfl⟩, (Nat.le_of_ble_eq_true rfl), (Nat.le_of_ble_eq_true rfl)⟩ ⟨(Nat.le_of_ble_eq_true rfl), (Nat.le_of_ble_eq_true rfl)⟩ hl.1 (Nat.le_of_ble_eq_true rfl) d_Shore_init_74 (fun a21 H locs had h => ?_)
  have g2_21 : a21 2 = x := (had 2 (by decide)).trans g2_20
  have g3_21 : a21 3 = q3 := (had 3 (by decide)).trans g3_20
  have g5_21 : a21 5 = q5 := (had 5 (by decide)).trans g5_20
  have g6_21 : a21 6 = q6 := (had 6 (by decide)).trans hq6
  replace hag := ag_trans hag had (by decide)
  refine g_stR C h (k := 5) (q := 6) (N := 10) (t0 := 3) (r := (R_Thing, T_Thing, 6)) (by decide) (by decide) g5_21 g6_21 (cg_RT rfl) rfl rfl (rfl : cls[3]? = some (R_Thing, T_Thing, 6)) (i0 := 0) (by decide) (by decide) (by decide) d_Shore_init_77 (fun H locs h => ?_)
  refine lv_iinc (v := 1) (lv' := [(1, .int (1 : Int32)), (0, .ref x)]) hx hb d_Shore_init_78 hl (k := 0) rfl (by decide) (by decide) rfl (fun ls hl => ?_)
  refine lv_goto (tgt := 59) hx hb d_Shore_init_81 (by decide) ?_
  refine lv_iload_n hx hb d_Shore_init_59 rfl (lv_at hl 0 rfl) ?_
  refine lv_bipush (v := 10) hx hb d_Shore_init_60 (by decide) ?_
  refine lv_icmp_ge (tgt := 84) hx hb d_Shore_init_62 (by decide) (fun q => absurd q (by decide)) (fun _ => ?_)
  refine lv_aload_n hx hb d_Shore_init_65 rfl (lv_at hl 1 rfl) ?_
  refine g_get C h (k := 2) (q := 5) (by decide) g2_21 rfl (rfl : cls[1]? = some (R_Shore, T_Shore, 6)) in_Shore 2 (by decide) tw_135 rfl rfl g5_21 d_Shore_init_66 ?_
  refine lv_iload_n hx hb d_Shore_init_69 rfl (lv_at hl 0 rfl) ?_
  refine g_new C h (N := 6) (ci := 3) in_Thing ty_Thing tyok_Thing tw_92 tw_94 tw_66 rfl (fr_Thing rfl) df_Thing (Nat.le_of_ble_eq_true rfl) (Nat.le_of_ble_eq_true rfl) d_Shore_init_70 (fun q7 a22 H hq7 had h => ?_)
  have g2_22 : a22 2 = x := (had 2 (by decide)).trans g2_21
  have g3_22 : a22 3 = q3 := (had 3 (by decide)).trans g3_21
  have g5_22 : a22 5 = q5 := (had 5 (by decide)).trans g5_21
  replace hag := ag_trans hag had (by decide)
  refine lv_dup hx hb d_Shore_init_73 rfl ?_
  refine g_callN C h (kc_Thing (n := 8)) cw_Thing_init ini_Thing_init ins_Thing_init rfl tw_95 hd_Thing_init ⟨⟨rfl, rfl⟩, (Nat.le_of_ble_eq_true rfl), (Nat.le_of_ble_eq_true rfl)⟩ ⟨(Nat.le_of_ble_eq_true rfl), (Nat.le_of_ble_eq_true rfl)⟩ hl.1 (Nat.le_of_ble_eq_true rfl) d_Shore_init_74 (fun a23 H locs had h => ?_)
  have g2_23 : a23 2 = x := (had 2 (by decide)).trans g2_22
  have g3_23 : a23 3 = q3 := (had 3 (by decide)).trans g3_22
  have g5_23 : a23 5 = q5 := (had 5 (by decide)).trans g5_22
  have g7_23 : a23 7 = q7 := (had 7 (by decide)).trans hq7
  replace hag := ag_trans hag had (by decide)
  refine g_stR C h (k := 5) (q := 7) (N := 10) (t0 := 3) (r := (R_Thing, T_Thing, 6)) (by decide) (by decide) g5_23 g7_23 (cg_RT rfl) rfl rfl (rfl : cls[3]? = some (R_Thing, T_Thing, 6)) (i0 := 1) (by decide) (by decide) (by decide) d_Shore_init_77 (fun H locs h => ?_)
  refine lv_iinc (v := 2) (lv' := [(1, .int (2 : Int32)), (0, .ref x)]) hx hb d_Shore_init_78 hl (k := 0) rfl (by decide) (by decide) rfl (fun ls hl => ?_)
  refine lv_goto (tgt := 59) hx hb d_Shore_init_81 (by decide) ?_
  refine lv_iload_n hx hb d_Shore_init_59 rfl (lv_at hl 0 rfl) ?_
  refine lv_bipush (v := 10) hx hb d_Shore_init_60 (by decide) ?_
  refine lv_icmp_ge (tgt := 84) hx hb d_Shore_init_62 (by decide) (fun q => absurd q (by decide)) (fun _ => ?_)
  refine lv_aload_n hx hb d_Shore_init_65 rfl (lv_at hl 1 rfl) ?_
  refine g_get C h (k := 2) (q := 5) (by decide) g2_23 rfl (rfl : cls[1]? = some (R_Shore, T_Shore, 6)) in_Shore 2 (by decide) tw_135 rfl rfl g5_23 d_Shore_init_66 ?_
  refine lv_iload_n hx hb d_Shore_init_69 rfl (lv_at hl 0 rfl) ?_
  refine g_new C h (N := 6) (ci := 3) in_Thing ty_Thing tyok_Thing tw_92 tw_94 tw_66 rfl (fr_Thing rfl) df_Thing (Nat.le_of_ble_eq_true rfl) (Nat.le_of_ble_eq_true rfl) d_Shore_init_70 (fun q8 a24 H hq8 had h => ?_)
  have g2_24 : a24 2 = x := (had 2 (by decide)).trans g2_23
  have g3_24 : a24 3 = q3 := (had 3 (by decide)).trans g3_23
  have g5_24 : a24 5 = q5 := (had 5 (by decide)).trans g5_23
  replace hag := ag_trans hag had (by decide)
  refine lv_dup hx hb d_Shore_init_73 rfl ?_
  refine g_callN C h (kc_Thing (n := 9)) cw_Thing_init ini_Thing_init ins_Thing_init rfl tw_95 hd_Thing_init ⟨⟨rfl, rfl⟩, (Nat.le_of_ble_eq_true rfl), (Nat.le_of_ble_eq_true rfl)⟩ ⟨(Nat.le_of_ble_eq_true rfl), (Nat.le_of_ble_eq_true rfl)⟩ hl.1 (Nat.le_of_ble_eq_true rfl) d_Shore_init_74 (fun a25 H locs had h => ?_)
  have g2_25 : a25 2 = x := (had 2 (by decide)).trans g2_24
  have g3_25 : a25 3 = q3 := (had 3 (by decide)).trans g3_24
  have g5_25 : a25 5 = q5 := (had 5 (by decide)).trans g5_24
  have g8_25 : a25 8 = q8 := (had 8 (by decide)).trans hq8
  replace hag := ag_trans hag had (by decide)
  refine g_stR C h (k := 5) (q := 8) (N := 10) (t0 := 3) (r := (R_Thing, T_Thing, 6)) (by decide) (by decide) g5_25 g8_25 (cg_RT rfl) rfl rfl (rfl : cls[3]? = some (R_Thing, T_Thing, 6)) (i0 := 2) (by decide) (by decide) (by decide) d_Shore_init_77 (fun H locs h => ?_)
  refine lv_iinc (v := 3) (lv' := [(1, .int (3 : Int32)), (0, .ref x)]) hx hb d_Shore_init_78 hl (k := 0) rfl (by decide) (by decide) rfl (fun ls hl => ?_)
  refine lv_goto (tgt := 59) hx hb d_Shore_init_81 (by decide) ?_
  refine lv_iload_n hx hb d_Shore_init_59 rfl (lv_at hl 0 rfl) ?_
  refine lv_bipush (v := 10) hx hb d_Shore_init_60 (by decide) ?_
  refine lv_icmp_ge (tgt := 84) hx hb d_Shore_init_62 (by decide) (fun q => absurd q (by decide)) (fun _ => ?_)
  refine lv_aload_n hx hb d_Shore_init_65 rfl (lv_at hl 1 rfl) ?_
  refine g_get C h (k := 2) (q := 5) (by decide) g2_25 rfl (rfl : cls[1]? = some (R_Shore, T_Shore, 6)) in_Shore 2 (by decide) tw_135 rfl rfl g5_25 d_Shore_init_66 ?_
  refine lv_iload_n hx hb d_Shore_init_69 rfl (lv_at hl 0 rfl) ?_
  refine g_new C h (N := 6) (ci := 3) in_Thing ty_Thing tyok_Thing tw_92 tw_94 tw_66 rfl (fr_Thing rfl) df_Thing (Nat.le_of_ble_eq_true rfl) (Nat.le_of_ble_eq_true rfl) d_Shore_init_70 (fun q9 a26 H hq9 had h => ?_)
  have g2_26 : a26 2 = x := (had 2 (by decide)).trans g2_25
  have g3_26 : a26 3 = q3 := (had 3 (by decide)).trans g3_25
  have g5_26 : a26 5 = q5 := (had 5 (by decide)).trans g5_25
  replace hag := ag_trans hag had (by decide)
  refine lv_dup hx hb d_Shore_init_73 rfl ?_
  refine g_callN C h (kc_Thing (n := 10)) cw_Thing_init ini_Thing_init ins_Thing_init rfl tw_95 hd_Thing_init ⟨⟨rfl, rfl⟩, (Nat.le_of_ble_eq_true rfl), (Nat.le_of_ble_eq_true rfl)⟩ ⟨(Nat.le_of_ble_eq_true rfl), (Nat.le_of_ble_eq_true rfl)⟩ hl.1 (Nat.le_of_ble_eq_true rfl) d_Shore_init_74 (fun a27 H locs had h => ?_)
  have g2_27 : a27 2 = x := (had 2 (by decide)).trans g2_26
  have g3_27 : a27 3 = q3 := (had 3 (by decide)).trans g3_26
  have g5_27 : a27 5 = q5 := (had 5 (by decide)).trans g5_26
  have g9_27 : a27 9 = q9 := (had 9 (by decide)).trans hq9
  replace hag := ag_trans hag had (by decide)
  refine g_stR C h (k := 5) (q := 9) (N := 10) (t0 := 3) (r := (R_Thing, T_Thing, 6)) (by decide) (by decide) g5_27 g9_27 (cg_RT rfl) rfl rfl (rfl : cls[3]? = some (R_Thing, T_Thing, 6)) (i0 := 3) (by decide) (by decide) (by decide) d_Shore_init_77 (fun H locs h => ?_)
  refine lv_iinc (v := 4) (lv' := [(1, .int (4 : Int32)), (0, .ref x)]) hx hb d_Shore_init_78 hl (k := 0) rfl (by decide) (by decide) rfl (fun ls hl => ?_)
  refine lv_goto (tgt := 59) hx hb d_Shore_init_81 (by decide) ?_
  refine lv_iload_n hx hb d_Shore_init_59 rfl (lv_at hl 0 rfl) ?_
  refine lv_bipush (v := 10) hx hb d_Shore_init_60 (by decide) ?_
  refine lv_icmp_ge (tgt := 84) hx hb d_Shore_init_62 (by decide) (fun q => absurd q (by decide)) (fun _ => ?_)
  refine lv_aload_n hx hb d_Shore_init_65 rfl (lv_at hl 1 rfl) ?_
  refine g_get C h (k := 2) (q := 5) (by decide) g2_27 rfl (rfl : cls[1]? = some (R_Shore, T_Shore, 6)) in_Shore 2 (by decide) tw_135 rfl rfl g5_27 d_Shore_init_66 ?_
  refine lv_iload_n hx hb d_Shore_init_69 rfl (lv_at hl 0 rfl) ?_
  refine g_new C h (N := 6) (ci := 3) in_Thing ty_Thing tyok_Thing tw_92 tw_94 tw_66 rfl (fr_Thing rfl) df_Thing (Nat.le_of_ble_eq_true rfl) (Nat.le_of_ble_eq_true rfl) d_Shore_init_70 (fun q10 a28 H hq10 had h => ?_)
  have g2_28 : a28 2 = x := (had 2 (by decide)).trans g2_27
  have g3_28 : a28 3 = q3 := (had 3 (by decide)).trans g3_27
  have g5_28 : a28 5 = q5 := (had 5 (by decide)).trans g5_27
  replace hag := ag_trans hag had (by decide)
  refine lv_dup hx hb d_Shore_init_73 rfl ?_
  refine g_callN C h (kc_Thing (n := 11)) cw_Thing_init ini_Thing_init ins_Thing_init rfl tw_95 hd_Thing_init ⟨⟨rfl, rfl⟩, (Nat.le_of_ble_eq_true rfl), (Nat.le_of_ble_eq_true rfl)⟩ ⟨(Nat.le_of_ble_eq_true rfl), (Nat.le_of_ble_eq_true rfl)⟩ hl.1 (Nat.le_of_ble_eq_true rfl) d_Shore_init_74 (fun a29 H locs had h => ?_)
  have g2_29 : a29 2 = x := (had 2 (by decide)).trans g2_28
  have g3_29 : a29 3 = q3 := (had 3 (by decide)).trans g3_28
  have g5_29 : a29 5 = q5 := (had 5 (by decide)).trans g5_28
  have g10_29 : a29 10 = q10 := (had 10 (by decide)).trans hq10
  replace hag := ag_trans hag had (by decide)
  refine g_stR C h (k := 5) (q := 10) (N := 10) (t0 := 3) (r := (R_Thing, T_Thing, 6)) (by decide) (by decide) g5_29 g10_29 (cg_RT rfl) rfl rfl (rfl : cls[3]? = some (R_Thing, T_Thing, 6)) (i0 := 4) (by decide) (by decide) (by decide) d_Shore_init_77 (fun H locs h => ?_)
  refine lv_iinc (v := 5) (lv' := [(1, .int (5 : Int32)), (0, .ref x)]) hx hb d_Shore_init_78 hl (k := 0) rfl (by decide) (by decide) rfl (fun ls hl => ?_)
  refine lv_goto (tgt := 59) hx hb d_Shore_init_81 (by decide) ?_
  refine lv_iload_n hx hb d_Shore_init_59 rfl (lv_at hl 0 rfl) ?_
  refine lv_bipush (v := 10) hx hb d_Shore_init_60 (by decide) ?_
  refine lv_icmp_ge (tgt := 84) hx hb d_Shore_init_62 (by decide) (fun q => absurd q (by decide)) (fun _ => ?_)
  refine lv_aload_n hx hb d_Shore_init_65 rfl (lv_at hl 1 rfl) ?_
  refine g_get C h (k := 2) (q := 5) (by decide) g2_29 rfl (rfl : cls[1]? = some (R_Shore, T_Shore, 6)) in_Shore 2 (by decide) tw_135 rfl rfl g5_29 d_Shore_init_66 ?_
  refine lv_iload_n hx hb d_Shore_init_69 rfl (lv_at hl 0 rfl) ?_
  refine g_new C h (N := 6) (ci := 3) in_Thing ty_Thing tyok_Thing tw_92 tw_94 tw_66 rfl (fr_Thing rfl) df_Thing (Nat.le_of_ble_eq_true rfl) (Nat.le_of_ble_eq_true rfl) d_Shore_init_70 (fun q11 a30 H hq11 had h => ?_)
  have g2_30 : a30 2 = x := (had 2 (by decide)).trans g2_29
  have g3_30 : a30 3 = q3 := (had 3 (by decide)).trans g3_29
  have g5_30 : a30 5 = q5 := (had 5 (by decide)).trans g5_29
  replace hag := ag_trans hag had (by decide)
  refine lv_dup hx hb d_Shore_init_73 rfl ?_
  refine g_callN C h (kc_Thing (n := 12)) cw_Thing_init ini_Thing_init ins_Thing_init rfl tw_95 hd_Thing_init ⟨⟨rfl, rfl⟩, (Nat.le_of_ble_eq_true rfl), (Nat.le_of_ble_eq_true rfl)⟩ ⟨(Nat.le_of_ble_eq_true rfl), (Nat.le_of_ble_eq_true rfl)⟩ hl.1 (Nat.le_of_ble_eq_true rfl) d_Shore_init_74 (fun a31 H locs had h => ?_)
  have g2_31 : a31 2 = x := (had 2 (by decide)).trans g2_30
  have g3_31 : a31 3 = q3 := (had 3 (by decide)).trans g3_30
  have g5_31 : a31 5 = q5 := (had 5 (by decide)).trans g5_30
  have g11_31 : a31 11 = q11 := (had 11 (by decide)).trans hq11
  replace hag := ag_trans hag had (by decide)
  refine g_stR C h (k := 5) (q := 11) (N := 10) (t0 := 3) (r := (R_Thing, T_Thing, 6)) (by decide) (by decide) g5_31 g11_31 (cg_RT rfl) rfl rfl (rfl : cls[3]? = some (R_Thing, T_Thing, 6)) (i0 := 5) (by decide) (by decide) (by decide) d_Shore_init_77 (fun H locs h => ?_)
  refine lv_iinc (v := 6) (lv' := [(1, .int (6 : Int32)), (0, .ref x)]) hx hb d_Shore_init_78 hl (k := 0) rfl (by decide) (by decide) rfl (fun ls hl => ?_)
  refine lv_goto (tgt := 59) hx hb d_Shore_init_81 (by decide) ?_
  refine lv_iload_n hx hb d_Shore_init_59 rfl (lv_at hl 0 rfl) ?_
  refine lv_bipush (v := 10) hx hb d_Shore_init_60 (by decide) ?_
  refine lv_icmp_ge (tgt := 84) hx hb d_Shore_init_62 (by decide) (fun q => absurd q (by decide)) (fun _ => ?_)
  refine lv_aload_n hx hb d_Shore_init_65 rfl (lv_at hl 1 rfl) ?_
  refine g_get C h (k := 2) (q := 5) (by decide) g2_31 rfl (rfl : cls[1]? = some (R_Shore, T_Shore, 6)) in_Shore 2 (by decide) tw_135 rfl rfl g5_31 d_Shore_init_66 ?_
  refine lv_iload_n hx hb d_Shore_init_69 rfl (lv_at hl 0 rfl) ?_
  refine g_new C h (N := 6) (ci := 3) in_Thing ty_Thing tyok_Thing tw_92 tw_94 tw_66 rfl (fr_Thing rfl) df_Thing (Nat.le_of_ble_eq_true rfl) (Nat.le_of_ble_eq_true rfl) d_Shore_init_70 (fun q12 a32 H hq12 had h => ?_)
  have g2_32 : a32 2 = x := (had 2 (by decide)).trans g2_31
  have g3_32 : a32 3 = q3 := (had 3 (by decide)).trans g3_31
  have g5_32 : a32 5 = q5 := (had 5 (by decide)).trans g5_31
  replace hag := ag_trans hag had (by decide)
  refine lv_dup hx hb d_Shore_init_73 rfl ?_
  refine g_callN C h (kc_Thing (n := 13)) cw_Thing_init ini_Thing_init ins_Thing_init rfl tw_95 hd_Thing_init ⟨⟨rfl, rfl⟩, (Nat.le_of_ble_eq_true rfl), (Nat.le_of_ble_eq_true rfl)⟩ ⟨(Nat.le_of_ble_eq_true rfl), (Nat.le_of_ble_eq_true rfl)⟩ hl.1 (Nat.le_of_ble_eq_true rfl) d_Shore_init_74 (fun a33 H locs had h => ?_)
  have g2_33 : a33 2 = x := (had 2 (by decide)).trans g2_32
  have g3_33 : a33 3 = q3 := (had 3 (by decide)).trans g3_32
  have g5_33 : a33 5 = q5 := (had 5 (by decide)).trans g5_32
  have g12_33 : a33 12 = q12 := (had 12 (by decide)).trans hq12
  replace hag := ag_trans hag had (by decide)
  refine g_stR C h (k := 5) (q := 12) (N := 10) (t0 := 3) (r := (R_Thing, T_Thing, 6)) (by decide) (by decide) g5_33 g12_33 (cg_RT rfl) rfl rfl (rfl : cls[3]? = some (R_Thing, T_Thing, 6)) (i0 := 6) (by decide) (by decide) (by decide) d_Shore_init_77 (fun H locs h => ?_)
  refine lv_iinc (v := 7) (lv' := [(1, .int (7 : Int32)), (0, .ref x)]) hx hb d_Shore_init_78 hl (k := 0) rfl (by decide) (by decide) rfl (fun ls hl => ?_)
  refine lv_goto (tgt := 59) hx hb d_Shore_init_81 (by decide) ?_
  refine lv_iload_n hx hb d_Shore_init_59 rfl (lv_at hl 0 rfl) ?_
  refine lv_bipush (v := 10) hx hb d_Shore_init_60 (by decide) ?_
  refine lv_icmp_ge (tgt := 84) hx hb d_Shore_init_62 (by decide) (fun q => absurd q (by decide)) (fun _ => ?_)
  refine lv_aload_n hx hb d_Shore_init_65 rfl (lv_at hl 1 rfl) ?_
  refine g_get C h (k := 2) (q := 5) (by decide) g2_33 rfl (rfl : cls[1]? = some (R_Shore, T_Shore, 6)) in_Shore 2 (by decide) tw_135 rfl rfl g5_33 d_Shore_init_66 ?_
  refine lv_iload_n hx hb d_Shore_init_69 rfl (lv_at hl 0 rfl) ?_
  refine g_new C h (N := 6) (ci := 3) in_Thing ty_Thing tyok_Thing tw_92 tw_94 tw_66 rfl (fr_Thing rfl) df_Thing (Nat.le_of_ble_eq_true rfl) (Nat.le_of_ble_eq_true rfl) d_Shore_init_70 (fun q13 a34 H hq13 had h => ?_)
  have g2_34 : a34 2 = x := (had 2 (by decide)).trans g2_33
  have g3_34 : a34 3 = q3 := (had 3 (by decide)).trans g3_33
  have g5_34 : a34 5 = q5 := (had 5 (by decide)).trans g5_33
  replace hag := ag_trans hag had (by decide)
  refine lv_dup hx hb d_Shore_init_73 rfl ?_
  refine g_callN C h (kc_Thing (n := 14)) cw_Thing_init ini_Thing_init ins_Thing_init rfl tw_95 hd_Thing_init ⟨⟨rfl, rfl⟩, (Nat.le_of_ble_eq_true rfl), (Nat.le_of_ble_eq_true rfl)⟩ ⟨(Nat.le_of_ble_eq_true rfl), (Nat.le_of_ble_eq_true rfl)⟩ hl.1 (Nat.le_of_ble_eq_true rfl) d_Shore_init_74 (fun a35 H locs had h => ?_)
  have g2_35 : a35 2 = x := (had 2 (by decide)).trans g2_34
  have g3_35 : a35 3 = q3 := (had 3 (by decide)).trans g3_34
  have g5_35 : a35 5 = q5 := (had 5 (by decide)).trans g5_34
  have g13_35 : a35 13 = q13 := (had 13 (by decide)).trans hq13
  replace hag := ag_trans hag had (by decide)
  refine g_stR C h (k := 5) (q := 13) (N := 10) (t0 := 3) (r := (R_Thing, T_Thing, 6)) (by decide) (by decide) g5_35 g13_35 (cg_RT rfl) rfl rfl (rfl : cls[3]? = some (R_Thing, T_Thing, 6)) (i0 := 7) (by decide) (by decide) (by decide) d_Shore_init_77 (fun H locs h => ?_)
  refine lv_iinc (v := 8) (lv' := [(1, .int (8 : Int32)), (0, .ref x)]) hx hb d_Shore_init_78 hl (k := 0) rfl (by decide) (by decide) rfl (fun ls hl => ?_)
  refine lv_goto (tgt := 59) hx hb d_Shore_init_81 (by decide) ?_
  refine lv_iload_n hx hb d_Shore_init_59 rfl (lv_at hl 0 rfl) ?_
  refine lv_bipush (v := 10) hx hb d_Shore_init_60 (by decide) ?_
  refine lv_icmp_ge (tgt := 84) hx hb d_Shore_init_62 (by decide) (fun q => absurd q (by decide)) (fun _ => ?_)
  refine lv_aload_n hx hb d_Shore_init_65 rfl (lv_at hl 1 rfl) ?_
  refine g_get C h (k := 2) (q := 5) (by decide) g2_35 rfl (rfl : cls[1]? = some (R_Shore, T_Shore, 6)) in_Shore 2 (by decide) tw_135 rfl rfl g5_35 d_Shore_init_66 ?_
  refine lv_iload_n hx hb d_Shore_init_69 rfl (lv_at hl 0 rfl) ?_
  refine g_new C h (N := 6) (ci := 3) in_Thing ty_Thing tyok_Thing tw_92 tw_94 tw_66 rfl (fr_Thing rfl) df_Thing (Nat.le_of_ble_eq_true rfl) (Nat.le_of_ble_eq_true rfl) d_Shore_init_70 (fun q14 a36 H hq14 had h => ?_)
  have g2_36 : a36 2 = x := (had 2 (by decide)).trans g2_35
  have g3_36 : a36 3 = q3 := (had 3 (by decide)).trans g3_35
  have g5_36 : a36 5 = q5 := (had 5 (by decide)).trans g5_35
  replace hag := ag_trans hag had (by decide)
  refine lv_dup hx hb d_Shore_init_73 rfl ?_
  refine g_callN C h (kc_Thing (n := 15)) cw_Thing_init ini_Thing_init ins_Thing_init rfl tw_95 hd_Thing_init ⟨⟨rfl, rfl⟩, (Nat.le_of_ble_eq_true rfl), (Nat.le_of_ble_eq_true rfl)⟩ ⟨(Nat.le_of_ble_eq_true rfl), (Nat.le_of_ble_eq_true rfl)⟩ hl.1 (Nat.le_of_ble_eq_true rfl) d_Shore_init_74 (fun a37 H locs had h => ?_)
  have g2_37 : a37 2 = x := (had 2 (by decide)).trans g2_36
  have g3_37 : a37 3 = q3 := (had 3 (by decide)).trans g3_36
  have g5_37 : a37 5 = q5 := (had 5 (by decide)).trans g5_36
  have g14_37 : a37 14 = q14 := (had 14 (by decide)).trans hq14
  replace hag := ag_trans hag had (by decide)
  refine g_stR C h (k := 5) (q := 14) (N := 10) (t0 := 3) (r := (R_Thing, T_Thing, 6)) (by decide) (by decide) g5_37 g14_37 (cg_RT rfl) rfl rfl (rfl : cls[3]? = some (R_Thing, T_Thing, 6)) (i0 := 8) (by decide) (by decide) (by decide) d_Shore_init_77 (fun H locs h => ?_)
  refine lv_iinc (v := 9) (lv' := [(1, .int (9 : Int32)), (0, .ref x)]) hx hb d_Shore_init_78 hl (k := 0) rfl (by decide) (by decide) rfl (fun ls hl => ?_)
  refine lv_goto (tgt := 59) hx hb d_Shore_init_81 (by decide) ?_
  refine lv_iload_n hx hb d_Shore_init_59 rfl (lv_at hl 0 rfl) ?_
  refine lv_bipush (v := 10) hx hb d_Shore_init_60 (by decide) ?_
  refine lv_icmp_ge (tgt := 84) hx hb d_Shore_init_62 (by decide) (fun q => absurd q (by decide)) (fun _ => ?_)
  refine lv_aload_n hx hb d_Shore_init_65 rfl (lv_at hl 1 rfl) ?_
  refine g_get C h (k := 2) (q := 5) (by decide) g2_37 rfl (rfl : cls[1]? = some (R_Shore, T_Shore, 6)) in_Shore 2 (by decide) tw_135 rfl rfl g5_37 d_Shore_init_66 ?_
  refine lv_iload_n hx hb d_Shore_init_69 rfl (lv_at hl 0 rfl) ?_
  refine g_new C h (N := 6) (ci := 3) in_Thing ty_Thing tyok_Thing tw_92 tw_94 tw_66 rfl (fr_Thing rfl) df_Thing (Nat.le_of_ble_eq_true rfl) (Nat.le_of_ble_eq_true rfl) d_Shore_init_70 (fun q15 a38 H hq15 had h => ?_)
  have g2_38 : a38 2 = x := (had 2 (by decide)).trans g2_37
  have g3_38 : a38 3 = q3 := (had 3 (by decide)).trans g3_37
  have g5_38 : a38 5 = q5 := (had 5 (by decide)).trans g5_37
  replace hag := ag_trans hag had (by decide)
  refine lv_dup hx hb d_Shore_init_73 rfl ?_
  refine g_callN C h (kc_Thing (n := 16)) cw_Thing_init ini_Thing_init ins_Thing_init rfl tw_95 hd_Thing_init ⟨⟨rfl, rfl⟩, (Nat.le_of_ble_eq_true rfl), (Nat.le_of_ble_eq_true rfl)⟩ ⟨(Nat.le_of_ble_eq_true rfl), (Nat.le_of_ble_eq_true rfl)⟩ hl.1 (Nat.le_of_ble_eq_true rfl) d_Shore_init_74 (fun a39 H locs had h => ?_)
  have g2_39 : a39 2 = x := (had 2 (by decide)).trans g2_38
  have g3_39 : a39 3 = q3 := (had 3 (by decide)).trans g3_38
  have g5_39 : a39 5 = q5 := (had 5 (by decide)).trans g5_38
  have g15_39 : a39 15 = q15 := (had 15 (by decide)).trans hq15
  replace hag := ag_trans hag had (by decide)
  refine g_stR C h (k := 5) (q := 15) (N := 10) (t0 := 3) (r := (R_Thing, T_Thing, 6)) (by decide) (by decide) g5_39 g15_39 (cg_RT rfl) rfl rfl (rfl : cls[3]? = some (R_Thing, T_Thing, 6)) (i0 := 9) (by decide) (by decide) (by decide) d_Shore_init_77 (fun H locs h => ?_)
  refine lv_iinc (v := 10) (lv' := [(1, .int (10 : Int32)), (0, .ref x)]) hx hb d_Shore_init_78 hl (k := 0) rfl (by decide) (by decide) rfl (fun ls hl => ?_)
  refine lv_goto (tgt := 59) hx hb d_Shore_init_81 (by decide) ?_
  refine lv_iload_n hx hb d_Shore_init_59 rfl (lv_at hl 0 rfl) ?_
  refine lv_bipush (v := 10) hx hb d_Shore_init_60 (by decide) ?_
  refine lv_icmp_ge (tgt := 84) hx hb d_Shore_init_62 (by decide) (fun _ => ?_) (fun q => absurd (by decide) q)
  exact g_vret C h hag ⟨rfl, rfl, rfl⟩ d_Shore_init_84
def cF_Shore_16 (F : Fn) : Fn := (sF (sF (sF (sF (sF (sF (sF (sF (sF (sF (sF (sF (sF F 16 0 17) 16 1 18) 16 2 19) 19 0 20) 19 1 21) 19 2 22) 19 3 23) 19 4 24) 19 5 25) 19 6 26) 19 7 27) 19 8 28) 19 9 29)
def cX_Shore_16 (X : Mem) : Mem := (sI (sI (sI (sI (sI (sI (sI (sI (sI (sI (sI (sI (sI (sI (sI (sI (sI X 16 5 (2 : Int32)) 17 0 (0 : Int32)) 17 1 (1 : Int32)) 17 2 (2 : Int32)) 17 3 (3 : Int32)) 17 4 (4 : Int32)) 17 5 (5 : Int32)) 17 6 (6 : Int32)) 17 7 (7 : Int32)) 17 8 (8 : Int32)) 17 9 (9 : Int32)) 17 10 (0 : Int32)) 17 11 (1 : Int32)) 17 12 (2 : Int32)) 17 13 (3 : Int32)) 17 14 (4 : Int32)) 17 15 (5 : Int32))
set_option maxHeartbeats 4000000 in
set_option maxRecDepth 100000 in
theorem kc_Shore_16 {l : Launch} {E : En} {b : Nat} {a : Nat → Nat} {F : Fn} {X : Mem} {x : Nat} (hx0 : a 16 = x) : Met l y_Shore_init (Cond.code y_Shore_init c_Shore_init 2 none :: tb) ({ frames := 2, cells := 13, slots := 90, locals := 32 } : Room) (PreG E b [.ref x] 17 a F X) (PostG E b 17 a 30 (cF_Shore_16 F) (cX_Shore_16 X)) 13 90 (fun q => b ≤ q) := by
  refine met_ofG (by decide) rfl (Nat.le_of_ble_eq_true rfl) (fun p e s m below meth c C h ls hl => ?_)
  replace C : Cg p s m ([.ref x] : List Value).toArray meth c c_Shore_init 2 "TideLoans$Shore" E b := C
  replace hl : lv_has ls 2 [(0, .ref x)] := hl
  obtain ⟨hx, hb, hml, hown, hts, hrt, hlk, hKg, hnm⟩ := id C
  have hag : ∀ k, k < 17 → a k = a k := fun _ _ => rfl
  refine lv_aload_n hx hb d_Shore_init_0 rfl (lv_at hl 0 rfl) ?_
  refine g_oinit C hl.1 tw_91 oi_inst oi_code (Nat.le_of_ble_eq_true rfl) (Nat.le_of_ble_eq_true rfl) d_Shore_init_1 ?_
  refine lv_aload_n hx hb d_Shore_init_4 rfl (lv_at hl 0 rfl) ?_
  refine lv_bipush (v := 16) hx hb d_Shore_init_5 (by decide) ?_
  refine g_newP C h (atype := .int) (ty := .int) rfl (N := 16) (t0 := 0) (a0 := (16, .inl (fun _ => 0))) (fr_I (N := 16) rfl (by decide)) (fun _ => rfl) rfl (fun _ q => by cases q) (by decide) (by decide) tw_130 (Nat.le_of_ble_eq_true rfl) (Nat.le_of_ble_eq_true rfl) (Nat.le_of_ble_eq_true rfl) d_Shore_init_7 (fun q17 a1 H hq17 had h => ?_)
  have g16_1 : a1 16 = x := (had 16 (by decide)).trans hx0
  replace hag := ag_trans hag had (by decide)
  refine g_putR C h (k := 16) (q := 17) (by decide) (by decide) g16_1 hq17 rfl (rfl : cls[1]? = some (R_Shore, T_Shore, 6)) in_Shore ty_Shore tyok_Shore nm_Shore 0 (by decide) tw_131 rfl rfl rfl rfl (Nat.le_of_ble_eq_true rfl) rfl rfl d_Shore_init_9 (fun H locs h => ?_)
  refine lv_aload_n hx hb d_Shore_init_12 rfl (lv_at hl 0 rfl) ?_
  refine lv_iconst (v := 4) hx hb d_Shore_init_13 (by decide) ?_
  refine g_newP C h (atype := .int) (ty := .int) rfl (N := 4) (t0 := 0) (a0 := (4, .inl (fun _ => 0))) (fr_I (N := 4) rfl (by decide)) (fun _ => rfl) rfl (fun _ q => by cases q) (by decide) (by decide) tw_130 (Nat.le_of_ble_eq_true rfl) (Nat.le_of_ble_eq_true rfl) (Nat.le_of_ble_eq_true rfl) d_Shore_init_14 (fun q18 a2 H hq18 had h => ?_)
  have g16_2 : a2 16 = x := (had 16 (by decide)).trans g16_1
  have g17_2 : a2 17 = q17 := (had 17 (by decide)).trans hq17
  replace hag := ag_trans hag had (by decide)
  refine g_putR C h (k := 16) (q := 18) (by decide) (by decide) g16_2 hq18 rfl (rfl : cls[1]? = some (R_Shore, T_Shore, 6)) in_Shore ty_Shore tyok_Shore nm_Shore 1 (by decide) tw_133 rfl rfl rfl rfl (Nat.le_of_ble_eq_true rfl) rfl rfl d_Shore_init_16 (fun H locs h => ?_)
  refine lv_aload_n hx hb d_Shore_init_19 rfl (lv_at hl 0 rfl) ?_
  refine lv_bipush (v := 10) hx hb d_Shore_init_20 (by decide) ?_
  refine g_newR C h (N := 10) (t0 := 3) (Cn := "TideLoans$Thing") (fr_RT rfl) rfl (fun q => q.1) (by decide) (by decide) tw_92 (Nat.le_of_ble_eq_true rfl) (Nat.le_of_ble_eq_true rfl) d_Shore_init_22 (fun q19 a3 H hq19 had h => ?_)
  have g16_3 : a3 16 = x := (had 16 (by decide)).trans g16_2
  have g17_3 : a3 17 = q17 := (had 17 (by decide)).trans g17_2
  replace hag := ag_trans hag had (by decide)
  refine g_putR C h (k := 16) (q := 19) (by decide) (by decide) g16_3 hq19 rfl (rfl : cls[1]? = some (R_Shore, T_Shore, 6)) in_Shore ty_Shore tyok_Shore nm_Shore 2 (by decide) tw_135 rfl rfl rfl rfl (Nat.le_of_ble_eq_true rfl) rfl rfl d_Shore_init_25 (fun H locs h => ?_)
  refine lv_aload_n hx hb d_Shore_init_28 rfl (lv_at hl 0 rfl) ?_
  refine lv_iconst (v := 2) hx hb d_Shore_init_29 (by decide) ?_
  refine g_putI C h (k := 16) (by decide) g16_3 rfl (rfl : cls[1]? = some (R_Shore, T_Shore, 6)) in_Shore ty_Shore tyok_Shore nm_Shore 5 (by decide) tw_141 rfl rfl rfl (Nat.le_of_ble_eq_true rfl) rfl rfl d_Shore_init_30 (fun H locs h => ?_)
  refine lv_iconst (v := 0) hx hb d_Shore_init_33 (by decide) ?_
  refine lv_istore_n (lv' := [(1, .int (0 : Int32)), (0, .ref x)]) hx hb d_Shore_init_34 rfl hl (by decide) rfl (fun ls hl => ?_)
  refine lv_iload_n hx hb d_Shore_init_35 rfl (lv_at hl 0 rfl) ?_
  refine lv_bipush (v := 16) hx hb d_Shore_init_36 (by decide) ?_
  refine lv_icmp_ge (tgt := 57) hx hb d_Shore_init_38 (by decide) (fun q => absurd q (by decide)) (fun _ => ?_)
  refine lv_aload_n hx hb d_Shore_init_41 rfl (lv_at hl 1 rfl) ?_
  refine g_get C h (k := 16) (q := 17) (by decide) g16_3 rfl (rfl : cls[1]? = some (R_Shore, T_Shore, 6)) in_Shore 0 (by decide) tw_131 rfl rfl g17_3 d_Shore_init_42 ?_
  refine lv_iload_n hx hb d_Shore_init_45 rfl (lv_at hl 0 rfl) ?_
  refine lv_iload_n hx hb d_Shore_init_46 rfl (lv_at hl 0 rfl) ?_
  refine lv_bipush (v := 10) hx hb d_Shore_init_47 (by decide) ?_
  refine lv_irem hx hb d_Shore_init_49 (by decide) ?_
  refine lv_topi (fun z4 hz4 => ?_)
  replace hz4 : z4 = 0 := hz4.trans (by decide)
  subst hz4
  refine g_stI C h (k := 17) (N := 16) (by decide) g17_3 rfl (by decide) (i0 := 0) (by decide) (by decide) d_Shore_init_50 (fun H locs h => ?_)
  refine lv_iinc (v := 1) (lv' := [(1, .int (1 : Int32)), (0, .ref x)]) hx hb d_Shore_init_51 hl (k := 0) rfl (by decide) (by decide) rfl (fun ls hl => ?_)
  refine lv_goto (tgt := 35) hx hb d_Shore_init_54 (by decide) ?_
  refine lv_iload_n hx hb d_Shore_init_35 rfl (lv_at hl 0 rfl) ?_
  refine lv_bipush (v := 16) hx hb d_Shore_init_36 (by decide) ?_
  refine lv_icmp_ge (tgt := 57) hx hb d_Shore_init_38 (by decide) (fun q => absurd q (by decide)) (fun _ => ?_)
  refine lv_aload_n hx hb d_Shore_init_41 rfl (lv_at hl 1 rfl) ?_
  refine g_get C h (k := 16) (q := 17) (by decide) g16_3 rfl (rfl : cls[1]? = some (R_Shore, T_Shore, 6)) in_Shore 0 (by decide) tw_131 rfl rfl g17_3 d_Shore_init_42 ?_
  refine lv_iload_n hx hb d_Shore_init_45 rfl (lv_at hl 0 rfl) ?_
  refine lv_iload_n hx hb d_Shore_init_46 rfl (lv_at hl 0 rfl) ?_
  refine lv_bipush (v := 10) hx hb d_Shore_init_47 (by decide) ?_
  refine lv_irem hx hb d_Shore_init_49 (by decide) ?_
  refine lv_topi (fun z5 hz5 => ?_)
  replace hz5 : z5 = 1 := hz5.trans (by decide)
  subst hz5
  refine g_stI C h (k := 17) (N := 16) (by decide) g17_3 rfl (by decide) (i0 := 1) (by decide) (by decide) d_Shore_init_50 (fun H locs h => ?_)
  refine lv_iinc (v := 2) (lv' := [(1, .int (2 : Int32)), (0, .ref x)]) hx hb d_Shore_init_51 hl (k := 0) rfl (by decide) (by decide) rfl (fun ls hl => ?_)
  refine lv_goto (tgt := 35) hx hb d_Shore_init_54 (by decide) ?_
  refine lv_iload_n hx hb d_Shore_init_35 rfl (lv_at hl 0 rfl) ?_
  refine lv_bipush (v := 16) hx hb d_Shore_init_36 (by decide) ?_
  refine lv_icmp_ge (tgt := 57) hx hb d_Shore_init_38 (by decide) (fun q => absurd q (by decide)) (fun _ => ?_)
  refine lv_aload_n hx hb d_Shore_init_41 rfl (lv_at hl 1 rfl) ?_
  refine g_get C h (k := 16) (q := 17) (by decide) g16_3 rfl (rfl : cls[1]? = some (R_Shore, T_Shore, 6)) in_Shore 0 (by decide) tw_131 rfl rfl g17_3 d_Shore_init_42 ?_
  refine lv_iload_n hx hb d_Shore_init_45 rfl (lv_at hl 0 rfl) ?_
  refine lv_iload_n hx hb d_Shore_init_46 rfl (lv_at hl 0 rfl) ?_
  refine lv_bipush (v := 10) hx hb d_Shore_init_47 (by decide) ?_
  refine lv_irem hx hb d_Shore_init_49 (by decide) ?_
  refine lv_topi (fun z6 hz6 => ?_)
  replace hz6 : z6 = 2 := hz6.trans (by decide)
  subst hz6
  refine g_stI C h (k := 17) (N := 16) (by decide) g17_3 rfl (by decide) (i0 := 2) (by decide) (by decide) d_Shore_init_50 (fun H locs h => ?_)
  refine lv_iinc (v := 3) (lv' := [(1, .int (3 : Int32)), (0, .ref x)]) hx hb d_Shore_init_51 hl (k := 0) rfl (by decide) (by decide) rfl (fun ls hl => ?_)
  refine lv_goto (tgt := 35) hx hb d_Shore_init_54 (by decide) ?_
  refine lv_iload_n hx hb d_Shore_init_35 rfl (lv_at hl 0 rfl) ?_
  refine lv_bipush (v := 16) hx hb d_Shore_init_36 (by decide) ?_
  refine lv_icmp_ge (tgt := 57) hx hb d_Shore_init_38 (by decide) (fun q => absurd q (by decide)) (fun _ => ?_)
  refine lv_aload_n hx hb d_Shore_init_41 rfl (lv_at hl 1 rfl) ?_
  refine g_get C h (k := 16) (q := 17) (by decide) g16_3 rfl (rfl : cls[1]? = some (R_Shore, T_Shore, 6)) in_Shore 0 (by decide) tw_131 rfl rfl g17_3 d_Shore_init_42 ?_
  refine lv_iload_n hx hb d_Shore_init_45 rfl (lv_at hl 0 rfl) ?_
  refine lv_iload_n hx hb d_Shore_init_46 rfl (lv_at hl 0 rfl) ?_
  refine lv_bipush (v := 10) hx hb d_Shore_init_47 (by decide) ?_
  refine lv_irem hx hb d_Shore_init_49 (by decide) ?_
  refine lv_topi (fun z7 hz7 => ?_)
  replace hz7 : z7 = 3 := hz7.trans (by decide)
  subst hz7
  refine g_stI C h (k := 17) (N := 16) (by decide) g17_3 rfl (by decide) (i0 := 3) (by decide) (by decide) d_Shore_init_50 (fun H locs h => ?_)
  refine lv_iinc (v := 4) (lv' := [(1, .int (4 : Int32)), (0, .ref x)]) hx hb d_Shore_init_51 hl (k := 0) rfl (by decide) (by decide) rfl (fun ls hl => ?_)
  refine lv_goto (tgt := 35) hx hb d_Shore_init_54 (by decide) ?_
  refine lv_iload_n hx hb d_Shore_init_35 rfl (lv_at hl 0 rfl) ?_
  refine lv_bipush (v := 16) hx hb d_Shore_init_36 (by decide) ?_
  refine lv_icmp_ge (tgt := 57) hx hb d_Shore_init_38 (by decide) (fun q => absurd q (by decide)) (fun _ => ?_)
  refine lv_aload_n hx hb d_Shore_init_41 rfl (lv_at hl 1 rfl) ?_
  refine g_get C h (k := 16) (q := 17) (by decide) g16_3 rfl (rfl : cls[1]? = some (R_Shore, T_Shore, 6)) in_Shore 0 (by decide) tw_131 rfl rfl g17_3 d_Shore_init_42 ?_
  refine lv_iload_n hx hb d_Shore_init_45 rfl (lv_at hl 0 rfl) ?_
  refine lv_iload_n hx hb d_Shore_init_46 rfl (lv_at hl 0 rfl) ?_
  refine lv_bipush (v := 10) hx hb d_Shore_init_47 (by decide) ?_
  refine lv_irem hx hb d_Shore_init_49 (by decide) ?_
  refine lv_topi (fun z8 hz8 => ?_)
  replace hz8 : z8 = 4 := hz8.trans (by decide)
  subst hz8
  refine g_stI C h (k := 17) (N := 16) (by decide) g17_3 rfl (by decide) (i0 := 4) (by decide) (by decide) d_Shore_init_50 (fun H locs h => ?_)
  refine lv_iinc (v := 5) (lv' := [(1, .int (5 : Int32)), (0, .ref x)]) hx hb d_Shore_init_51 hl (k := 0) rfl (by decide) (by decide) rfl (fun ls hl => ?_)
  refine lv_goto (tgt := 35) hx hb d_Shore_init_54 (by decide) ?_
  refine lv_iload_n hx hb d_Shore_init_35 rfl (lv_at hl 0 rfl) ?_
  refine lv_bipush (v := 16) hx hb d_Shore_init_36 (by decide) ?_
  refine lv_icmp_ge (tgt := 57) hx hb d_Shore_init_38 (by decide) (fun q => absurd q (by decide)) (fun _ => ?_)
  refine lv_aload_n hx hb d_Shore_init_41 rfl (lv_at hl 1 rfl) ?_
  refine g_get C h (k := 16) (q := 17) (by decide) g16_3 rfl (rfl : cls[1]? = some (R_Shore, T_Shore, 6)) in_Shore 0 (by decide) tw_131 rfl rfl g17_3 d_Shore_init_42 ?_
  refine lv_iload_n hx hb d_Shore_init_45 rfl (lv_at hl 0 rfl) ?_
  refine lv_iload_n hx hb d_Shore_init_46 rfl (lv_at hl 0 rfl) ?_
  refine lv_bipush (v := 10) hx hb d_Shore_init_47 (by decide) ?_
  refine lv_irem hx hb d_Shore_init_49 (by decide) ?_
  refine lv_topi (fun z9 hz9 => ?_)
  replace hz9 : z9 = 5 := hz9.trans (by decide)
  subst hz9
  refine g_stI C h (k := 17) (N := 16) (by decide) g17_3 rfl (by decide) (i0 := 5) (by decide) (by decide) d_Shore_init_50 (fun H locs h => ?_)
  refine lv_iinc (v := 6) (lv' := [(1, .int (6 : Int32)), (0, .ref x)]) hx hb d_Shore_init_51 hl (k := 0) rfl (by decide) (by decide) rfl (fun ls hl => ?_)
  refine lv_goto (tgt := 35) hx hb d_Shore_init_54 (by decide) ?_
  refine lv_iload_n hx hb d_Shore_init_35 rfl (lv_at hl 0 rfl) ?_
  refine lv_bipush (v := 16) hx hb d_Shore_init_36 (by decide) ?_
  refine lv_icmp_ge (tgt := 57) hx hb d_Shore_init_38 (by decide) (fun q => absurd q (by decide)) (fun _ => ?_)
  refine lv_aload_n hx hb d_Shore_init_41 rfl (lv_at hl 1 rfl) ?_
  refine g_get C h (k := 16) (q := 17) (by decide) g16_3 rfl (rfl : cls[1]? = some (R_Shore, T_Shore, 6)) in_Shore 0 (by decide) tw_131 rfl rfl g17_3 d_Shore_init_42 ?_
  refine lv_iload_n hx hb d_Shore_init_45 rfl (lv_at hl 0 rfl) ?_
  refine lv_iload_n hx hb d_Shore_init_46 rfl (lv_at hl 0 rfl) ?_
  refine lv_bipush (v := 10) hx hb d_Shore_init_47 (by decide) ?_
  refine lv_irem hx hb d_Shore_init_49 (by decide) ?_
  refine lv_topi (fun z10 hz10 => ?_)
  replace hz10 : z10 = 6 := hz10.trans (by decide)
  subst hz10
  refine g_stI C h (k := 17) (N := 16) (by decide) g17_3 rfl (by decide) (i0 := 6) (by decide) (by decide) d_Shore_init_50 (fun H locs h => ?_)
  refine lv_iinc (v := 7) (lv' := [(1, .int (7 : Int32)), (0, .ref x)]) hx hb d_Shore_init_51 hl (k := 0) rfl (by decide) (by decide) rfl (fun ls hl => ?_)
  refine lv_goto (tgt := 35) hx hb d_Shore_init_54 (by decide) ?_
  refine lv_iload_n hx hb d_Shore_init_35 rfl (lv_at hl 0 rfl) ?_
  refine lv_bipush (v := 16) hx hb d_Shore_init_36 (by decide) ?_
  refine lv_icmp_ge (tgt := 57) hx hb d_Shore_init_38 (by decide) (fun q => absurd q (by decide)) (fun _ => ?_)
  refine lv_aload_n hx hb d_Shore_init_41 rfl (lv_at hl 1 rfl) ?_
  refine g_get C h (k := 16) (q := 17) (by decide) g16_3 rfl (rfl : cls[1]? = some (R_Shore, T_Shore, 6)) in_Shore 0 (by decide) tw_131 rfl rfl g17_3 d_Shore_init_42 ?_
  refine lv_iload_n hx hb d_Shore_init_45 rfl (lv_at hl 0 rfl) ?_
  refine lv_iload_n hx hb d_Shore_init_46 rfl (lv_at hl 0 rfl) ?_
  refine lv_bipush (v := 10) hx hb d_Shore_init_47 (by decide) ?_
  refine lv_irem hx hb d_Shore_init_49 (by decide) ?_
  refine lv_topi (fun z11 hz11 => ?_)
  replace hz11 : z11 = 7 := hz11.trans (by decide)
  subst hz11
  refine g_stI C h (k := 17) (N := 16) (by decide) g17_3 rfl (by decide) (i0 := 7) (by decide) (by decide) d_Shore_init_50 (fun H locs h => ?_)
  refine lv_iinc (v := 8) (lv' := [(1, .int (8 : Int32)), (0, .ref x)]) hx hb d_Shore_init_51 hl (k := 0) rfl (by decide) (by decide) rfl (fun ls hl => ?_)
  refine lv_goto (tgt := 35) hx hb d_Shore_init_54 (by decide) ?_
  refine lv_iload_n hx hb d_Shore_init_35 rfl (lv_at hl 0 rfl) ?_
  refine lv_bipush (v := 16) hx hb d_Shore_init_36 (by decide) ?_
  refine lv_icmp_ge (tgt := 57) hx hb d_Shore_init_38 (by decide) (fun q => absurd q (by decide)) (fun _ => ?_)
  refine lv_aload_n hx hb d_Shore_init_41 rfl (lv_at hl 1 rfl) ?_
  refine g_get C h (k := 16) (q := 17) (by decide) g16_3 rfl (rfl : cls[1]? = some (R_Shore, T_Shore, 6)) in_Shore 0 (by decide) tw_131 rfl rfl g17_3 d_Shore_init_42 ?_
  refine lv_iload_n hx hb d_Shore_init_45 rfl (lv_at hl 0 rfl) ?_
  refine lv_iload_n hx hb d_Shore_init_46 rfl (lv_at hl 0 rfl) ?_
  refine lv_bipush (v := 10) hx hb d_Shore_init_47 (by decide) ?_
  refine lv_irem hx hb d_Shore_init_49 (by decide) ?_
  refine lv_topi (fun z12 hz12 => ?_)
  replace hz12 : z12 = 8 := hz12.trans (by decide)
  subst hz12
  refine g_stI C h (k := 17) (N := 16) (by decide) g17_3 rfl (by decide) (i0 := 8) (by decide) (by decide) d_Shore_init_50 (fun H locs h => ?_)
  refine lv_iinc (v := 9) (lv' := [(1, .int (9 : Int32)), (0, .ref x)]) hx hb d_Shore_init_51 hl (k := 0) rfl (by decide) (by decide) rfl (fun ls hl => ?_)
  refine lv_goto (tgt := 35) hx hb d_Shore_init_54 (by decide) ?_
  refine lv_iload_n hx hb d_Shore_init_35 rfl (lv_at hl 0 rfl) ?_
  refine lv_bipush (v := 16) hx hb d_Shore_init_36 (by decide) ?_
  refine lv_icmp_ge (tgt := 57) hx hb d_Shore_init_38 (by decide) (fun q => absurd q (by decide)) (fun _ => ?_)
  refine lv_aload_n hx hb d_Shore_init_41 rfl (lv_at hl 1 rfl) ?_
  refine g_get C h (k := 16) (q := 17) (by decide) g16_3 rfl (rfl : cls[1]? = some (R_Shore, T_Shore, 6)) in_Shore 0 (by decide) tw_131 rfl rfl g17_3 d_Shore_init_42 ?_
  refine lv_iload_n hx hb d_Shore_init_45 rfl (lv_at hl 0 rfl) ?_
  refine lv_iload_n hx hb d_Shore_init_46 rfl (lv_at hl 0 rfl) ?_
  refine lv_bipush (v := 10) hx hb d_Shore_init_47 (by decide) ?_
  refine lv_irem hx hb d_Shore_init_49 (by decide) ?_
  refine lv_topi (fun z13 hz13 => ?_)
  replace hz13 : z13 = 9 := hz13.trans (by decide)
  subst hz13
  refine g_stI C h (k := 17) (N := 16) (by decide) g17_3 rfl (by decide) (i0 := 9) (by decide) (by decide) d_Shore_init_50 (fun H locs h => ?_)
  refine lv_iinc (v := 10) (lv' := [(1, .int (10 : Int32)), (0, .ref x)]) hx hb d_Shore_init_51 hl (k := 0) rfl (by decide) (by decide) rfl (fun ls hl => ?_)
  refine lv_goto (tgt := 35) hx hb d_Shore_init_54 (by decide) ?_
  refine lv_iload_n hx hb d_Shore_init_35 rfl (lv_at hl 0 rfl) ?_
  refine lv_bipush (v := 16) hx hb d_Shore_init_36 (by decide) ?_
  refine lv_icmp_ge (tgt := 57) hx hb d_Shore_init_38 (by decide) (fun q => absurd q (by decide)) (fun _ => ?_)
  refine lv_aload_n hx hb d_Shore_init_41 rfl (lv_at hl 1 rfl) ?_
  refine g_get C h (k := 16) (q := 17) (by decide) g16_3 rfl (rfl : cls[1]? = some (R_Shore, T_Shore, 6)) in_Shore 0 (by decide) tw_131 rfl rfl g17_3 d_Shore_init_42 ?_
  refine lv_iload_n hx hb d_Shore_init_45 rfl (lv_at hl 0 rfl) ?_
  refine lv_iload_n hx hb d_Shore_init_46 rfl (lv_at hl 0 rfl) ?_
  refine lv_bipush (v := 10) hx hb d_Shore_init_47 (by decide) ?_
  refine lv_irem hx hb d_Shore_init_49 (by decide) ?_
  refine lv_topi (fun z14 hz14 => ?_)
  replace hz14 : z14 = 0 := hz14.trans (by decide)
  subst hz14
  refine g_stI C h (k := 17) (N := 16) (by decide) g17_3 rfl (by decide) (i0 := 10) (by decide) (by decide) d_Shore_init_50 (fun H locs h => ?_)
  refine lv_iinc (v := 11) (lv' := [(1, .int (11 : Int32)), (0, .ref x)]) hx hb d_Shore_init_51 hl (k := 0) rfl (by decide) (by decide) rfl (fun ls hl => ?_)
  refine lv_goto (tgt := 35) hx hb d_Shore_init_54 (by decide) ?_
  refine lv_iload_n hx hb d_Shore_init_35 rfl (lv_at hl 0 rfl) ?_
  refine lv_bipush (v := 16) hx hb d_Shore_init_36 (by decide) ?_
  refine lv_icmp_ge (tgt := 57) hx hb d_Shore_init_38 (by decide) (fun q => absurd q (by decide)) (fun _ => ?_)
  refine lv_aload_n hx hb d_Shore_init_41 rfl (lv_at hl 1 rfl) ?_
  refine g_get C h (k := 16) (q := 17) (by decide) g16_3 rfl (rfl : cls[1]? = some (R_Shore, T_Shore, 6)) in_Shore 0 (by decide) tw_131 rfl rfl g17_3 d_Shore_init_42 ?_
  refine lv_iload_n hx hb d_Shore_init_45 rfl (lv_at hl 0 rfl) ?_
  refine lv_iload_n hx hb d_Shore_init_46 rfl (lv_at hl 0 rfl) ?_
  refine lv_bipush (v := 10) hx hb d_Shore_init_47 (by decide) ?_
  refine lv_irem hx hb d_Shore_init_49 (by decide) ?_
  refine lv_topi (fun z15 hz15 => ?_)
  replace hz15 : z15 = 1 := hz15.trans (by decide)
  subst hz15
  refine g_stI C h (k := 17) (N := 16) (by decide) g17_3 rfl (by decide) (i0 := 11) (by decide) (by decide) d_Shore_init_50 (fun H locs h => ?_)
  refine lv_iinc (v := 12) (lv' := [(1, .int (12 : Int32)), (0, .ref x)]) hx hb d_Shore_init_51 hl (k := 0) rfl (by decide) (by decide) rfl (fun ls hl => ?_)
  refine lv_goto (tgt := 35) hx hb d_Shore_init_54 (by decide) ?_
  refine lv_iload_n hx hb d_Shore_init_35 rfl (lv_at hl 0 rfl) ?_
  refine lv_bipush (v := 16) hx hb d_Shore_init_36 (by decide) ?_
  refine lv_icmp_ge (tgt := 57) hx hb d_Shore_init_38 (by decide) (fun q => absurd q (by decide)) (fun _ => ?_)
  refine lv_aload_n hx hb d_Shore_init_41 rfl (lv_at hl 1 rfl) ?_
  refine g_get C h (k := 16) (q := 17) (by decide) g16_3 rfl (rfl : cls[1]? = some (R_Shore, T_Shore, 6)) in_Shore 0 (by decide) tw_131 rfl rfl g17_3 d_Shore_init_42 ?_
  refine lv_iload_n hx hb d_Shore_init_45 rfl (lv_at hl 0 rfl) ?_
  refine lv_iload_n hx hb d_Shore_init_46 rfl (lv_at hl 0 rfl) ?_
  refine lv_bipush (v := 10) hx hb d_Shore_init_47 (by decide) ?_
  refine lv_irem hx hb d_Shore_init_49 (by decide) ?_
  refine lv_topi (fun z16 hz16 => ?_)
  replace hz16 : z16 = 2 := hz16.trans (by decide)
  subst hz16
  refine g_stI C h (k := 17) (N := 16) (by decide) g17_3 rfl (by decide) (i0 := 12) (by decide) (by decide) d_Shore_init_50 (fun H locs h => ?_)
  refine lv_iinc (v := 13) (lv' := [(1, .int (13 : Int32)), (0, .ref x)]) hx hb d_Shore_init_51 hl (k := 0) rfl (by decide) (by decide) rfl (fun ls hl => ?_)
  refine lv_goto (tgt := 35) hx hb d_Shore_init_54 (by decide) ?_
  refine lv_iload_n hx hb d_Shore_init_35 rfl (lv_at hl 0 rfl) ?_
  refine lv_bipush (v := 16) hx hb d_Shore_init_36 (by decide) ?_
  refine lv_icmp_ge (tgt := 57) hx hb d_Shore_init_38 (by decide) (fun q => absurd q (by decide)) (fun _ => ?_)
  refine lv_aload_n hx hb d_Shore_init_41 rfl (lv_at hl 1 rfl) ?_
  refine g_get C h (k := 16) (q := 17) (by decide) g16_3 rfl (rfl : cls[1]? = some (R_Shore, T_Shore, 6)) in_Shore 0 (by decide) tw_131 rfl rfl g17_3 d_Shore_init_42 ?_
  refine lv_iload_n hx hb d_Shore_init_45 rfl (lv_at hl 0 rfl) ?_
  refine lv_iload_n hx hb d_Shore_init_46 rfl (lv_at hl 0 rfl) ?_
  refine lv_bipush (v := 10) hx hb d_Shore_init_47 (by decide) ?_
  refine lv_irem hx hb d_Shore_init_49 (by decide) ?_
  refine lv_topi (fun z17 hz17 => ?_)
  replace hz17 : z17 = 3 := hz17.trans (by decide)
  subst hz17
  refine g_stI C h (k := 17) (N := 16) (by decide) g17_3 rfl (by decide) (i0 := 13) (by decide) (by decide) d_Shore_init_50 (fun H locs h => ?_)
  refine lv_iinc (v := 14) (lv' := [(1, .int (14 : Int32)), (0, .ref x)]) hx hb d_Shore_init_51 hl (k := 0) rfl (by decide) (by decide) rfl (fun ls hl => ?_)
  refine lv_goto (tgt := 35) hx hb d_Shore_init_54 (by decide) ?_
  refine lv_iload_n hx hb d_Shore_init_35 rfl (lv_at hl 0 rfl) ?_
  refine lv_bipush (v := 16) hx hb d_Shore_init_36 (by decide) ?_
  refine lv_icmp_ge (tgt := 57) hx hb d_Shore_init_38 (by decide) (fun q => absurd q (by decide)) (fun _ => ?_)
  refine lv_aload_n hx hb d_Shore_init_41 rfl (lv_at hl 1 rfl) ?_
  refine g_get C h (k := 16) (q := 17) (by decide) g16_3 rfl (rfl : cls[1]? = some (R_Shore, T_Shore, 6)) in_Shore 0 (by decide) tw_131 rfl rfl g17_3 d_Shore_init_42 ?_
  refine lv_iload_n hx hb d_Shore_init_45 rfl (lv_at hl 0 rfl) ?_
  refine lv_iload_n hx hb d_Shore_init_46 rfl (lv_at hl 0 rfl) ?_
  refine lv_bipush (v := 10) hx hb d_Shore_init_47 (by decide) ?_
  refine lv_irem hx hb d_Shore_init_49 (by decide) ?_
  refine lv_topi (fun z18 hz18 => ?_)
  replace hz18 : z18 = 4 := hz18.trans (by decide)
  subst hz18
  refine g_stI C h (k := 17) (N := 16) (by decide) g17_3 rfl (by decide) (i0 := 14) (by decide) (by decide) d_Shore_init_50 (fun H locs h => ?_)
  refine lv_iinc (v := 15) (lv' := [(1, .int (15 : Int32)), (0, .ref x)]) hx hb d_Shore_init_51 hl (k := 0) rfl (by decide) (by decide) rfl (fun ls hl => ?_)
  refine lv_goto (tgt := 35) hx hb d_Shore_init_54 (by decide) ?_
  refine lv_iload_n hx hb d_Shore_init_35 rfl (lv_at hl 0 rfl) ?_
  refine lv_bipush (v := 16) hx hb d_Shore_init_36 (by decide) ?_
  refine lv_icmp_ge (tgt := 57) hx hb d_Shore_init_38 (by decide) (fun q => absurd q (by decide)) (fun _ => ?_)
  refine lv_aload_n hx hb d_Shore_init_41 rfl (lv_at hl 1 rfl) ?_
  refine g_get C h (k := 16) (q := 17) (by decide) g16_3 rfl (rfl : cls[1]? = some (R_Shore, T_Shore, 6)) in_Shore 0 (by decide) tw_131 rfl rfl g17_3 d_Shore_init_42 ?_
  refine lv_iload_n hx hb d_Shore_init_45 rfl (lv_at hl 0 rfl) ?_
  refine lv_iload_n hx hb d_Shore_init_46 rfl (lv_at hl 0 rfl) ?_
  refine lv_bipush (v := 10) hx hb d_Shore_init_47 (by decide) ?_
  refine lv_irem hx hb d_Shore_init_49 (by decide) ?_
  refine lv_topi (fun z19 hz19 => ?_)
  replace hz19 : z19 = 5 := hz19.trans (by decide)
  subst hz19
  refine g_stI C h (k := 17) (N := 16) (by decide) g17_3 rfl (by decide) (i0 := 15) (by decide) (by decide) d_Shore_init_50 (fun H locs h => ?_)
  refine lv_iinc (v := 16) (lv' := [(1, .int (16 : Int32)), (0, .ref x)]) hx hb d_Shore_init_51 hl (k := 0) rfl (by decide) (by decide) rfl (fun ls hl => ?_)
  refine lv_goto (tgt := 35) hx hb d_Shore_init_54 (by decide) ?_
  refine lv_iload_n hx hb d_Shore_init_35 rfl (lv_at hl 0 rfl) ?_
  refine lv_bipush (v := 16) hx hb d_Shore_init_36 (by decide) ?_
  refine lv_icmp_ge (tgt := 57) hx hb d_Shore_init_38 (by decide) (fun _ => ?_) (fun q => absurd (by decide) q)
  refine lv_iconst (v := 0) hx hb d_Shore_init_57 (by decide) ?_
  refine lv_istore_n (lv' := [(1, .int (0 : Int32)), (0, .ref x)]) hx hb d_Shore_init_58 rfl hl (by decide) rfl (fun ls hl => ?_)
  refine lv_iload_n hx hb d_Shore_init_59 rfl (lv_at hl 0 rfl) ?_
  refine lv_bipush (v := 10) hx hb d_Shore_init_60 (by decide) ?_
  refine lv_icmp_ge (tgt := 84) hx hb d_Shore_init_62 (by decide) (fun q => absurd q (by decide)) (fun _ => ?_)
  refine lv_aload_n hx hb d_Shore_init_65 rfl (lv_at hl 1 rfl) ?_
  refine g_get C h (k := 16) (q := 19) (by decide) g16_3 rfl (rfl : cls[1]? = some (R_Shore, T_Shore, 6)) in_Shore 2 (by decide) tw_135 rfl rfl hq19 d_Shore_init_66 ?_
  refine lv_iload_n hx hb d_Shore_init_69 rfl (lv_at hl 0 rfl) ?_
  refine g_new C h (N := 6) (ci := 3) in_Thing ty_Thing tyok_Thing tw_92 tw_94 tw_66 rfl (fr_Thing rfl) df_Thing (Nat.le_of_ble_eq_true rfl) (Nat.le_of_ble_eq_true rfl) d_Shore_init_70 (fun q20 a20 H hq20 had h => ?_)
  have g16_20 : a20 16 = x := (had 16 (by decide)).trans g16_3
  have g17_20 : a20 17 = q17 := (had 17 (by decide)).trans g17_3
  have g19_20 : a20 19 = q19 := (had 19 (by decide)).trans hq19
  replace hag := ag_trans hag had (by decide)
  refine lv_dup hx hb d_Shore_init_73 rfl ?_
  refine g_callN C h (kc_Thing (n := 21)) cw_Thing_init ini_Thing_init ins_Thing_init rfl tw_95 hd_Thing_init ⟨⟨rfl, rfl⟩, (Nat.le_of_ble_eq_true rfl), (Nat.le_of_ble_eq_true rfl)⟩ ⟨(Nat.le_of_ble_eq_true rfl), (Nat.le_of_ble_eq_true rfl)⟩ hl.1 (Nat.le_of_ble_eq_true rfl) d_Shore_init_74 (fun a21 H locs had h => ?_)
  have g16_21 : a21 16 = x := (had 16 (by decide)).trans g16_20
  have g17_21 : a21 17 = q17 := (had 17 (by decide)).trans g17_20
  have g19_21 : a21 19 = q19 := (had 19 (by decide)).trans g19_20
  have g20_21 : a21 20 = q20 := (had 20 (by decide)).trans hq20
  replace hag := ag_trans hag had (by decide)
  refine g_stR C h (k := 19) (q := 20) (N := 10) (t0 := 3) (r := (R_Thing, T_Thing, 6)) (by decide) (by decide) g19_21 g20_21 (cg_RT rfl) rfl rfl (rfl : cls[3]? = some (R_Thing, T_Thing, 6)) (i0 := 0) (by decide) (by decide) (by decide) d_Shore_init_77 (fun H locs h => ?_)
  refine lv_iinc (v := 1) (lv' := [(1, .int (1 : Int32)), (0, .ref x)]) hx hb d_Shore_init_78 hl (k := 0) rfl (by decide) (by decide) rfl (fun ls hl => ?_)
  refine lv_goto (tgt := 59) hx hb d_Shore_init_81 (by decide) ?_
  refine lv_iload_n hx hb d_Shore_init_59 rfl (lv_at hl 0 rfl) ?_
  refine lv_bipush (v := 10) hx hb d_Shore_init_60 (by decide) ?_
  refine lv_icmp_ge (tgt := 84) hx hb d_Shore_init_62 (by decide) (fun q => absurd q (by decide)) (fun _ => ?_)
  refine lv_aload_n hx hb d_Shore_init_65 rfl (lv_at hl 1 rfl) ?_
  refine g_get C h (k := 16) (q := 19) (by decide) g16_21 rfl (rfl : cls[1]? = some (R_Shore, T_Shore, 6)) in_Shore 2 (by decide) tw_135 rfl rfl g19_21 d_Shore_init_66 ?_
  refine lv_iload_n hx hb d_Shore_init_69 rfl (lv_at hl 0 rfl) ?_
  refine g_new C h (N := 6) (ci := 3) in_Thing ty_Thing tyok_Thing tw_92 tw_94 tw_66 rfl (fr_Thing rfl) df_Thing (Nat.le_of_ble_eq_true rfl) (Nat.le_of_ble_eq_true rfl) d_Shore_init_70 (fun q21 a22 H hq21 had h => ?_)
  have g16_22 : a22 16 = x := (had 16 (by decide)).trans g16_21
  have g17_22 : a22 17 = q17 := (had 17 (by decide)).trans g17_21
  have g19_22 : a22 19 = q19 := (had 19 (by decide)).trans g19_21
  replace hag := ag_trans hag had (by decide)
  refine lv_dup hx hb d_Shore_init_73 rfl ?_
  refine g_callN C h (kc_Thing (n := 22)) cw_Thing_init ini_Thing_init ins_Thing_init rfl tw_95 hd_Thing_init ⟨⟨rfl, rfl⟩, (Nat.le_of_ble_eq_true rfl), (Nat.le_of_ble_eq_true rfl)⟩ ⟨(Nat.le_of_ble_eq_true rfl), (Nat.le_of_ble_eq_true rfl)⟩ hl.1 (Nat.le_of_ble_eq_true rfl) d_Shore_init_74 (fun a23 H locs had h => ?_)
  have g16_23 : a23 16 = x := (had 16 (by decide)).trans g16_22
  have g17_23 : a23 17 = q17 := (had 17 (by decide)).trans g17_22
  have g19_23 : a23 19 = q19 := (had 19 (by decide)).trans g19_22
  have g21_23 : a23 21 = q21 := (had 21 (by decide)).trans hq21
  replace hag := ag_trans hag had (by decide)
  refine g_stR C h (k := 19) (q := 21) (N := 10) (t0 := 3) (r := (R_Thing, T_Thing, 6)) (by decide) (by decide) g19_23 g21_23 (cg_RT rfl) rfl rfl (rfl : cls[3]? = some (R_Thing, T_Thing, 6)) (i0 := 1) (by decide) (by decide) (by decide) d_Shore_init_77 (fun H locs h => ?_)
  refine lv_iinc (v := 2) (lv' := [(1, .int (2 : Int32)), (0, .ref x)]) hx hb d_Shore_init_78 hl (k := 0) rfl (by decide) (by decide) rfl (fun ls hl => ?_)
  refine lv_goto (tgt := 59) hx hb d_Shore_init_81 (by decide) ?_
  refine lv_iload_n hx hb d_Shore_init_59 rfl (lv_at hl 0 rfl) ?_
  refine lv_bipush (v := 10) hx hb d_Shore_init_60 (by decide) ?_
  refine lv_icmp_ge (tgt := 84) hx hb d_Shore_init_62 (by decide) (fun q => absurd q (by decide)) (fun _ => ?_)
  refine lv_aload_n hx hb d_Shore_init_65 rfl (lv_at hl 1 rfl) ?_
  refine g_get C h (k := 16) (q := 19) (by decide) g16_23 rfl (rfl : cls[1]? = some (R_Shore, T_Shore, 6)) in_Shore 2 (by decide) tw_135 rfl rfl g19_23 d_Shore_init_66 ?_
  refine lv_iload_n hx hb d_Shore_init_69 rfl (lv_at hl 0 rfl) ?_
  refine g_new C h (N := 6) (ci := 3) in_Thing ty_Thing tyok_Thing tw_92 tw_94 tw_66 rfl (fr_Thing rfl) df_Thing (Nat.le_of_ble_eq_true rfl) (Nat.le_of_ble_eq_true rfl) d_Shore_init_70 (fun q22 a24 H hq22 had h => ?_)
  have g16_24 : a24 16 = x := (had 16 (by decide)).trans g16_23
  have g17_24 : a24 17 = q17 := (had 17 (by decide)).trans g17_23
  have g19_24 : a24 19 = q19 := (had 19 (by decide)).trans g19_23
  replace hag := ag_trans hag had (by decide)
  refine lv_dup hx hb d_Shore_init_73 rfl ?_
  refine g_callN C h (kc_Thing (n := 23)) cw_Thing_init ini_Thing_init ins_Thing_init rfl tw_95 hd_Thing_init ⟨⟨rfl, rfl⟩, (Nat.le_of_ble_eq_true rfl), (Nat.le_of_ble_eq_true rfl)⟩ ⟨(Nat.le_of_ble_eq_true rfl), (Nat.le_of_ble_eq_true rfl)⟩ hl.1 (Nat.le_of_ble_eq_true rfl) d_Shore_init_74 (fun a25 H locs had h => ?_)
  have g16_25 : a25 16 = x := (had 16 (by decide)).trans g16_24
  have g17_25 : a25 17 = q17 := (had 17 (by decide)).trans g17_24
  have g19_25 : a25 19 = q19 := (had 19 (by decide)).trans g19_24
  have g22_25 : a25 22 = q22 := (had 22 (by decide)).trans hq22
  replace hag := ag_trans hag had (by decide)
  refine g_stR C h (k := 19) (q := 22) (N := 10) (t0 := 3) (r := (R_Thing, T_Thing, 6)) (by decide) (by decide) g19_25 g22_25 (cg_RT rfl) rfl rfl (rfl : cls[3]? = some (R_Thing, T_Thing, 6)) (i0 := 2) (by decide) (by decide) (by decide) d_Shore_init_77 (fun H locs h => ?_)
  refine lv_iinc (v := 3) (lv' := [(1, .int (3 : Int32)), (0, .ref x)]) hx hb d_Shore_init_78 hl (k := 0) rfl (by decide) (by decide) rfl (fun ls hl => ?_)
  refine lv_goto (tgt := 59) hx hb d_Shore_init_81 (by decide) ?_
  refine lv_iload_n hx hb d_Shore_init_59 rfl (lv_at hl 0 rfl) ?_
  refine lv_bipush (v := 10) hx hb d_Shore_init_60 (by decide) ?_
  refine lv_icmp_ge (tgt := 84) hx hb d_Shore_init_62 (by decide) (fun q => absurd q (by decide)) (fun _ => ?_)
  refine lv_aload_n hx hb d_Shore_init_65 rfl (lv_at hl 1 rfl) ?_
  refine g_get C h (k := 16) (q := 19) (by decide) g16_25 rfl (rfl : cls[1]? = some (R_Shore, T_Shore, 6)) in_Shore 2 (by decide) tw_135 rfl rfl g19_25 d_Shore_init_66 ?_
  refine lv_iload_n hx hb d_Shore_init_69 rfl (lv_at hl 0 rfl) ?_
  refine g_new C h (N := 6) (ci := 3) in_Thing ty_Thing tyok_Thing tw_92 tw_94 tw_66 rfl (fr_Thing rfl) df_Thing (Nat.le_of_ble_eq_true rfl) (Nat.le_of_ble_eq_true rfl) d_Shore_init_70 (fun q23 a26 H hq23 had h => ?_)
  have g16_26 : a26 16 = x := (had 16 (by decide)).trans g16_25
  have g17_26 : a26 17 = q17 := (had 17 (by decide)).trans g17_25
  have g19_26 : a26 19 = q19 := (had 19 (by decide)).trans g19_25
  replace hag := ag_trans hag had (by decide)
  refine lv_dup hx hb d_Shore_init_73 rfl ?_
  refine g_callN C h (kc_Thing (n := 24)) cw_Thing_init ini_Thing_init ins_Thing_init rfl tw_95 hd_Thing_init ⟨⟨rfl, rfl⟩, (Nat.le_of_ble_eq_true rfl), (Nat.le_of_ble_eq_true rfl)⟩ ⟨(Nat.le_of_ble_eq_true rfl), (Nat.le_of_ble_eq_true rfl)⟩ hl.1 (Nat.le_of_ble_eq_true rfl) d_Shore_init_74 (fun a27 H locs had h => ?_)
  have g16_27 : a27 16 = x := (had 16 (by decide)).trans g16_26
  have g17_27 : a27 17 = q17 := (had 17 (by decide)).trans g17_26
  have g19_27 : a27 19 = q19 := (had 19 (by decide)).trans g19_26
  have g23_27 : a27 23 = q23 := (had 23 (by decide)).trans hq23
  replace hag := ag_trans hag had (by decide)
  refine g_stR C h (k := 19) (q := 23) (N := 10) (t0 := 3) (r := (R_Thing, T_Thing, 6)) (by decide) (by decide) g19_27 g23_27 (cg_RT rfl) rfl rfl (rfl : cls[3]? = some (R_Thing, T_Thing, 6)) (i0 := 3) (by decide) (by decide) (by decide) d_Shore_init_77 (fun H locs h => ?_)
  refine lv_iinc (v := 4) (lv' := [(1, .int (4 : Int32)), (0, .ref x)]) hx hb d_Shore_init_78 hl (k := 0) rfl (by decide) (by decide) rfl (fun ls hl => ?_)
  refine lv_goto (tgt := 59) hx hb d_Shore_init_81 (by decide) ?_
  refine lv_iload_n hx hb d_Shore_init_59 rfl (lv_at hl 0 rfl) ?_
  refine lv_bipush (v := 10) hx hb d_Shore_init_60 (by decide) ?_
  refine lv_icmp_ge (tgt := 84) hx hb d_Shore_init_62 (by decide) (fun q => absurd q (by decide)) (fun _ => ?_)
  refine lv_aload_n hx hb d_Shore_init_65 rfl (lv_at hl 1 rfl) ?_
  refine g_get C h (k := 16) (q := 19) (by decide) g16_27 rfl (rfl : cls[1]? = some (R_Shore, T_Shore, 6)) in_Shore 2 (by decide) tw_135 rfl rfl g19_27 d_Shore_init_66 ?_
  refine lv_iload_n hx hb d_Shore_init_69 rfl (lv_at hl 0 rfl) ?_
  refine g_new C h (N := 6) (ci := 3) in_Thing ty_Thing tyok_Thing tw_92 tw_94 tw_66 rfl (fr_Thing rfl) df_Thing (Nat.le_of_ble_eq_true rfl) (Nat.le_of_ble_eq_true rfl) d_Shore_init_70 (fun q24 a28 H hq24 had h => ?_)
  have g16_28 : a28 16 = x := (had 16 (by decide)).trans g16_27
  have g17_28 : a28 17 = q17 := (had 17 (by decide)).trans g17_27
  have g19_28 : a28 19 = q19 := (had 19 (by decide)).trans g19_27
  replace hag := ag_trans hag had (by decide)
  refine lv_dup hx hb d_Shore_init_73 rfl ?_
  refine g_callN C h (kc_Thing (n := 25)) cw_Thing_init ini_Thing_init ins_Thing_init rfl tw_95 hd_Thing_init ⟨⟨rfl, rfl⟩, (Nat.le_of_ble_eq_true rfl), (Nat.le_of_ble_eq_true rfl)⟩ ⟨(Nat.le_of_ble_eq_true rfl), (Nat.le_of_ble_eq_true rfl)⟩ hl.1 (Nat.le_of_ble_eq_true rfl) d_Shore_init_74 (fun a29 H locs had h => ?_)
  have g16_29 : a29 16 = x := (had 16 (by decide)).trans g16_28
  have g17_29 : a29 17 = q17 := (had 17 (by decide)).trans g17_28
  have g19_29 : a29 19 = q19 := (had 19 (by decide)).trans g19_28
  have g24_29 : a29 24 = q24 := (had 24 (by decide)).trans hq24
  replace hag := ag_trans hag had (by decide)
  refine g_stR C h (k := 19) (q := 24) (N := 10) (t0 := 3) (r := (R_Thing, T_Thing, 6)) (by decide) (by decide) g19_29 g24_29 (cg_RT rfl) rfl rfl (rfl : cls[3]? = some (R_Thing, T_Thing, 6)) (i0 := 4) (by decide) (by decide) (by decide) d_Shore_init_77 (fun H locs h => ?_)
  refine lv_iinc (v := 5) (lv' := [(1, .int (5 : Int32)), (0, .ref x)]) hx hb d_Shore_init_78 hl (k := 0) rfl (by decide) (by decide) rfl (fun ls hl => ?_)
  refine lv_goto (tgt := 59) hx hb d_Shore_init_81 (by decide) ?_
  refine lv_iload_n hx hb d_Shore_init_59 rfl (lv_at hl 0 rfl) ?_
  refine lv_bipush (v := 10) hx hb d_Shore_init_60 (by decide) ?_
  refine lv_icmp_ge (tgt := 84) hx hb d_Shore_init_62 (by decide) (fun q => absurd q (by decide)) (fun _ => ?_)
  refine lv_aload_n hx hb d_Shore_init_65 rfl (lv_at hl 1 rfl) ?_
  refine g_get C h (k := 16) (q := 19) (by decide) g16_29 rfl (rfl : cls[1]? = some (R_Shore, T_Shore, 6)) in_Shore 2 (by decide) tw_135 rfl rfl g19_29 d_Shore_init_66 ?_
  refine lv_iload_n hx hb d_Shore_init_69 rfl (lv_at hl 0 rfl) ?_
  refine g_new C h (N := 6) (ci := 3) in_Thing ty_Thing tyok_Thing tw_92 tw_94 tw_66 rfl (fr_Thing rfl) df_Thing (Nat.le_of_ble_eq_true rfl) (Nat.le_of_ble_eq_true rfl) d_Shore_init_70 (fun q25 a30 H hq25 had h => ?_)
  have g16_30 : a30 16 = x := (had 16 (by decide)).trans g16_29
  have g17_30 : a30 17 = q17 := (had 17 (by decide)).trans g17_29
  have g19_30 : a30 19 = q19 := (had 19 (by decide)).trans g19_29
  replace hag := ag_trans hag had (by decide)
  refine lv_dup hx hb d_Shore_init_73 rfl ?_
  refine g_callN C h (kc_Thing (n := 26)) cw_Thing_init ini_Thing_init ins_Thing_init rfl tw_95 hd_Thing_init ⟨⟨rfl, rfl⟩, (Nat.le_of_ble_eq_true rfl), (Nat.le_of_ble_eq_true rfl)⟩ ⟨(Nat.le_of_ble_eq_true rfl), (Nat.le_of_ble_eq_true rfl)⟩ hl.1 (Nat.le_of_ble_eq_true rfl) d_Shore_init_74 (fun a31 H locs had h => ?_)
  have g16_31 : a31 16 = x := (had 16 (by decide)).trans g16_30
  have g17_31 : a31 17 = q17 := (had 17 (by decide)).trans g17_30
  have g19_31 : a31 19 = q19 := (had 19 (by decide)).trans g19_30
  have g25_31 : a31 25 = q25 := (had 25 (by decide)).trans hq25
  replace hag := ag_trans hag had (by decide)
  refine g_stR C h (k := 19) (q := 25) (N := 10) (t0 := 3) (r := (R_Thing, T_Thing, 6)) (by decide) (by decide) g19_31 g25_31 (cg_RT rfl) rfl rfl (rfl : cls[3]? = some (R_Thing, T_Thing, 6)) (i0 := 5) (by decide) (by decide) (by decide) d_Shore_init_77 (fun H locs h => ?_)
  refine lv_iinc (v := 6) (lv' := [(1, .int (6 : Int32)), (0, .ref x)]) hx hb d_Shore_init_78 hl (k := 0) rfl (by decide) (by decide) rfl (fun ls hl => ?_)
  refine lv_goto (tgt := 59) hx hb d_Shore_init_81 (by decide) ?_
  refine lv_iload_n hx hb d_Shore_init_59 rfl (lv_at hl 0 rfl) ?_
  refine lv_bipush (v := 10) hx hb d_Shore_init_60 (by decide) ?_
  refine lv_icmp_ge (tgt := 84) hx hb d_Shore_init_62 (by decide) (fun q => absurd q (by decide)) (fun _ => ?_)
  refine lv_aload_n hx hb d_Shore_init_65 rfl (lv_at hl 1 rfl) ?_
  refine g_get C h (k := 16) (q := 19) (by decide) g16_31 rfl (rfl : cls[1]? = some (R_Shore, T_Shore, 6)) in_Shore 2 (by decide) tw_135 rfl rfl g19_31 d_Shore_init_66 ?_
  refine lv_iload_n hx hb d_Shore_init_69 rfl (lv_at hl 0 rfl) ?_
  refine g_new C h (N := 6) (ci := 3) in_Thing ty_Thing tyok_Thing tw_92 tw_94 tw_66 rfl (fr_Thing rfl) df_Thing (Nat.le_of_ble_eq_true rfl) (Nat.le_of_ble_eq_true rfl) d_Shore_init_70 (fun q26 a32 H hq26 had h => ?_)
  have g16_32 : a32 16 = x := (had 16 (by decide)).trans g16_31
  have g17_32 : a32 17 = q17 := (had 17 (by decide)).trans g17_31
  have g19_32 : a32 19 = q19 := (had 19 (by decide)).trans g19_31
  replace hag := ag_trans hag had (by decide)
  refine lv_dup hx hb d_Shore_init_73 rfl ?_
  refine g_callN C h (kc_Thing (n := 27)) cw_Thing_init ini_Thing_init ins_Thing_init rfl tw_95 hd_Thing_init ⟨⟨rfl, rfl⟩, (Nat.le_of_ble_eq_true rfl), (Nat.le_of_ble_eq_true rfl)⟩ ⟨(Nat.le_of_ble_eq_true rfl), (Nat.le_of_ble_eq_true rfl)⟩ hl.1 (Nat.le_of_ble_eq_true rfl) d_Shore_init_74 (fun a33 H locs had h => ?_)
  have g16_33 : a33 16 = x := (had 16 (by decide)).trans g16_32
  have g17_33 : a33 17 = q17 := (had 17 (by decide)).trans g17_32
  have g19_33 : a33 19 = q19 := (had 19 (by decide)).trans g19_32
  have g26_33 : a33 26 = q26 := (had 26 (by decide)).trans hq26
  replace hag := ag_trans hag had (by decide)
  refine g_stR C h (k := 19) (q := 26) (N := 10) (t0 := 3) (r := (R_Thing, T_Thing, 6)) (by decide) (by decide) g19_33 g26_33 (cg_RT rfl) rfl rfl (rfl : cls[3]? = some (R_Thing, T_Thing, 6)) (i0 := 6) (by decide) (by decide) (by decide) d_Shore_init_77 (fun H locs h => ?_)
  refine lv_iinc (v := 7) (lv' := [(1, .int (7 : Int32)), (0, .ref x)]) hx hb d_Shore_init_78 hl (k := 0) rfl (by decide) (by decide) rfl (fun ls hl => ?_)
  refine lv_goto (tgt := 59) hx hb d_Shore_init_81 (by decide) ?_
  refine lv_iload_n hx hb d_Shore_init_59 rfl (lv_at hl 0 rfl) ?_
  refine lv_bipush (v := 10) hx hb d_Shore_init_60 (by decide) ?_
  refine lv_icmp_ge (tgt := 84) hx hb d_Shore_init_62 (by decide) (fun q => absurd q (by decide)) (fun _ => ?_)
  refine lv_aload_n hx hb d_Shore_init_65 rfl (lv_at hl 1 rfl) ?_
  refine g_get C h (k := 16) (q := 19) (by decide) g16_33 rfl (rfl : cls[1]? = some (R_Shore, T_Shore, 6)) in_Shore 2 (by decide) tw_135 rfl rfl g19_33 d_Shore_init_66 ?_
  refine lv_iload_n hx hb d_Shore_init_69 rfl (lv_at hl 0 rfl) ?_
  refine g_new C h (N := 6) (ci := 3) in_Thing ty_Thing tyok_Thing tw_92 tw_94 tw_66 rfl (fr_Thing rfl) df_Thing (Nat.le_of_ble_eq_true rfl) (Nat.le_of_ble_eq_true rfl) d_Shore_init_70 (fun q27 a34 H hq27 had h => ?_)
  have g16_34 : a34 16 = x := (had 16 (by decide)).trans g16_33
  have g17_34 : a34 17 = q17 := (had 17 (by decide)).trans g17_33
  have g19_34 : a34 19 = q19 := (had 19 (by decide)).trans g19_33
  replace hag := ag_trans hag had (by decide)
  refine lv_dup hx hb d_Shore_init_73 rfl ?_
  refine g_callN C h (kc_Thing (n := 28)) cw_Thing_init ini_Thing_init ins_Thing_init rfl tw_95 hd_Thing_init ⟨⟨rfl, rfl⟩, (Nat.le_of_ble_eq_true rfl), (Nat.le_of_ble_eq_true rfl)⟩ ⟨(Nat.le_of_ble_eq_true rfl), (Nat.le_of_ble_eq_true rfl)⟩ hl.1 (Nat.le_of_ble_eq_true rfl) d_Shore_init_74 (fun a35 H locs had h => ?_)
  have g16_35 : a35 16 = x := (had 16 (by decide)).trans g16_34
  have g17_35 : a35 17 = q17 := (had 17 (by decide)).trans g17_34
  have g19_35 : a35 19 = q19 := (had 19 (by decide)).trans g19_34
  have g27_35 : a35 27 = q27 := (had 27 (by decide)).trans hq27
  replace hag := ag_trans hag had (by decide)
  refine g_stR C h (k := 19) (q := 27) (N := 10) (t0 := 3) (r := (R_Thing, T_Thing, 6)) (by decide) (by decide) g19_35 g27_35 (cg_RT rfl) rfl rfl (rfl : cls[3]? = some (R_Thing, T_Thing, 6)) (i0 := 7) (by decide) (by decide) (by decide) d_Shore_init_77 (fun H locs h => ?_)
  refine lv_iinc (v := 8) (lv' := [(1, .int (8 : Int32)), (0, .ref x)]) hx hb d_Shore_init_78 hl (k := 0) rfl (by decide) (by decide) rfl (fun ls hl => ?_)
  refine lv_goto (tgt := 59) hx hb d_Shore_init_81 (by decide) ?_
  refine lv_iload_n hx hb d_Shore_init_59 rfl (lv_at hl 0 rfl) ?_
  refine lv_bipush (v := 10) hx hb d_Shore_init_60 (by decide) ?_
  refine lv_icmp_ge (tgt := 84) hx hb d_Shore_init_62 (by decide) (fun q => absurd q (by decide)) (fun _ => ?_)
  refine lv_aload_n hx hb d_Shore_init_65 rfl (lv_at hl 1 rfl) ?_
  refine g_get C h (k := 16) (q := 19) (by decide) g16_35 rfl (rfl : cls[1]? = some (R_Shore, T_Shore, 6)) in_Shore 2 (by decide) tw_135 rfl rfl g19_35 d_Shore_init_66 ?_
  refine lv_iload_n hx hb d_Shore_init_69 rfl (lv_at hl 0 rfl) ?_
  refine g_new C h (N := 6) (ci := 3) in_Thing ty_Thing tyok_Thing tw_92 tw_94 tw_66 rfl (fr_Thing rfl) df_Thing (Nat.le_of_ble_eq_true rfl) (Nat.le_of_ble_eq_true rfl) d_Shore_init_70 (fun q28 a36 H hq28 had h => ?_)
  have g16_36 : a36 16 = x := (had 16 (by decide)).trans g16_35
  have g17_36 : a36 17 = q17 := (had 17 (by decide)).trans g17_35
  have g19_36 : a36 19 = q19 := (had 19 (by decide)).trans g19_35
  replace hag := ag_trans hag had (by decide)
  refine lv_dup hx hb d_Shore_init_73 rfl ?_
  refine g_callN C h (kc_Thing (n := 29)) cw_Thing_init ini_Thing_init ins_Thing_init rfl tw_95 hd_Thing_init ⟨⟨rfl, rfl⟩, (Nat.le_of_ble_eq_true rfl), (Nat.le_of_ble_eq_true rfl)⟩ ⟨(Nat.le_of_ble_eq_true rfl), (Nat.le_of_ble_eq_true rfl)⟩ hl.1 (Nat.le_of_ble_eq_true rfl) d_Shore_init_74 (fun a37 H locs had h => ?_)
  have g16_37 : a37 16 = x := (had 16 (by decide)).trans g16_36
  have g17_37 : a37 17 = q17 := (had 17 (by decide)).trans g17_36
  have g19_37 : a37 19 = q19 := (had 19 (by decide)).trans g19_36
  have g28_37 : a37 28 = q28 := (had 28 (by decide)).trans hq28
  replace hag := ag_trans hag had (by decide)
  refine g_stR C h (k := 19) (q := 28) (N := 10) (t0 := 3) (r := (R_Thing, T_Thing, 6)) (by decide) (by decide) g19_37 g28_37 (cg_RT rfl) rfl rfl (rfl : cls[3]? = some (R_Thing, T_Thing, 6)) (i0 := 8) (by decide) (by decide) (by decide) d_Shore_init_77 (fun H locs h => ?_)
  refine lv_iinc (v := 9) (lv' := [(1, .int (9 : Int32)), (0, .ref x)]) hx hb d_Shore_init_78 hl (k := 0) rfl (by decide) (by decide) rfl (fun ls hl => ?_)
  refine lv_goto (tgt := 59) hx hb d_Shore_init_81 (by decide) ?_
  refine lv_iload_n hx hb d_Shore_init_59 rfl (lv_at hl 0 rfl) ?_
  refine lv_bipush (v := 10) hx hb d_Shore_init_60 (by decide) ?_
  refine lv_icmp_ge (tgt := 84) hx hb d_Shore_init_62 (by decide) (fun q => absurd q (by decide)) (fun _ => ?_)
  refine lv_aload_n hx hb d_Shore_init_65 rfl (lv_at hl 1 rfl) ?_
  refine g_get C h (k := 16) (q := 19) (by decide) g16_37 rfl (rfl : cls[1]? = some (R_Shore, T_Shore, 6)) in_Shore 2 (by decide) tw_135 rfl rfl g19_37 d_Shore_init_66 ?_
  refine lv_iload_n hx hb d_Shore_init_69 rfl (lv_at hl 0 rfl) ?_
  refine g_new C h (N := 6) (ci := 3) in_Thing ty_Thing tyok_Thing tw_92 tw_94 tw_66 rfl (fr_Thing rfl) df_Thing (Nat.le_of_ble_eq_true rfl) (Nat.le_of_ble_eq_true rfl) d_Shore_init_70 (fun q29 a38 H hq29 had h => ?_)
  have g16_38 : a38 16 = x := (had 16 (by decide)).trans g16_37
  have g17_38 : a38 17 = q17 := (had 17 (by decide)).trans g17_37
  have g19_38 : a38 19 = q19 := (had 19 (by decide)).trans g19_37
  replace hag := ag_trans hag had (by decide)
  refine lv_dup hx hb d_Shore_init_73 rfl ?_
  refine g_callN C h (kc_Thing (n := 30)) cw_Thing_init ini_Thing_init ins_Thing_init rfl tw_95 hd_Thing_init ⟨⟨rfl, rfl⟩, (Nat.le_of_ble_eq_true rfl), (Nat.le_of_ble_eq_true rfl)⟩ ⟨(Nat.le_of_ble_eq_true rfl), (Nat.le_of_ble_eq_true rfl)⟩ hl.1 (Nat.le_of_ble_eq_true rfl) d_Shore_init_74 (fun a39 H locs had h => ?_)
  have g16_39 : a39 16 = x := (had 16 (by decide)).trans g16_38
  have g17_39 : a39 17 = q17 := (had 17 (by decide)).trans g17_38
  have g19_39 : a39 19 = q19 := (had 19 (by decide)).trans g19_38
  have g29_39 : a39 29 = q29 := (had 29 (by decide)).trans hq29
  replace hag := ag_trans hag had (by decide)
  refine g_stR C h (k := 19) (q := 29) (N := 10) (t0 := 3) (r := (R_Thing, T_Thing, 6)) (by decide) (by decide) g19_39 g29_39 (cg_RT rfl) rfl rfl (rfl : cls[3]? = some (R_Thing, T_Thing, 6)) (i0 := 9) (by decide) (by decide) (by decide) d_Shore_init_77 (fun H locs h => ?_)
  refine lv_iinc (v := 10) (lv' := [(1, .int (10 : Int32)), (0, .ref x)]) hx hb d_Shore_init_78 hl (k := 0) rfl (by decide) (by decide) rfl (fun ls hl => ?_)
  refine lv_goto (tgt := 59) hx hb d_Shore_init_81 (by decide) ?_
  refine lv_iload_n hx hb d_Shore_init_59 rfl (lv_at hl 0 rfl) ?_
  refine lv_bipush (v := 10) hx hb d_Shore_init_60 (by decide) ?_
  refine lv_icmp_ge (tgt := 84) hx hb d_Shore_init_62 (by decide) (fun _ => ?_) (fun q => absurd (by decide) q)
  exact g_vret C h hag ⟨rfl, rfl, rfl⟩ d_Shore_init_84
def cF_Shore_30 (F : Fn) : Fn := (sF (sF (sF (sF (sF (sF (sF (sF (sF (sF (sF (sF (sF F 30 0 31) 30 1 32) 30 2 33) 33 0 34) 33 1 35) 33 2 36) 33 3 37) 33 4 38) 33 5 39) 33 6 40) 33 7 41) 33 8 42) 33 9 43)
def cX_Shore_30 (X : Mem) : Mem := (sI (sI (sI (sI (sI (sI (sI (sI (sI (sI (sI (sI (sI (sI (sI (sI (sI X 30 5 (2 : Int32)) 31 0 (0 : Int32)) 31 1 (1 : Int32)) 31 2 (2 : Int32)) 31 3 (3 : Int32)) 31 4 (4 : Int32)) 31 5 (5 : Int32)) 31 6 (6 : Int32)) 31 7 (7 : Int32)) 31 8 (8 : Int32)) 31 9 (9 : Int32)) 31 10 (0 : Int32)) 31 11 (1 : Int32)) 31 12 (2 : Int32)) 31 13 (3 : Int32)) 31 14 (4 : Int32)) 31 15 (5 : Int32))
set_option maxHeartbeats 4000000 in
set_option maxRecDepth 100000 in
theorem kc_Shore_30 {l : Launch} {E : En} {b : Nat} {a : Nat → Nat} {F : Fn} {X : Mem} {x : Nat} (hx0 : a 30 = x) : Met l y_Shore_init (Cond.code y_Shore_init c_Shore_init 2 none :: tb) ({ frames := 2, cells := 13, slots := 90, locals := 32 } : Room) (PreG E b [.ref x] 31 a F X) (PostG E b 31 a 44 (cF_Shore_30 F) (cX_Shore_30 X)) 13 90 (fun q => b ≤ q) := by
  refine met_ofG (by decide) rfl (Nat.le_of_ble_eq_true rfl) (fun p e s m below meth c C h ls hl => ?_)
  replace C : Cg p s m ([.ref x] : List Value).toArray meth c c_Shore_init 2 "TideLoans$Shore" E b := C
  replace hl : lv_has ls 2 [(0, .ref x)] := hl
  obtain ⟨hx, hb, hml, hown, hts, hrt, hlk, hKg, hnm⟩ := id C
  have hag : ∀ k, k < 31 → a k = a k := fun _ _ => rfl
  refine lv_aload_n hx hb d_Shore_init_0 rfl (lv_at hl 0 rfl) ?_
  refine g_oinit C hl.1 tw_91 oi_inst oi_code (Nat.le_of_ble_eq_true rfl) (Nat.le_of_ble_eq_true rfl) d_Shore_init_1 ?_
  refine lv_aload_n hx hb d_Shore_init_4 rfl (lv_at hl 0 rfl) ?_
  refine lv_bipush (v := 16) hx hb d_Shore_init_5 (by decide) ?_
  refine g_newP C h (atype := .int) (ty := .int) rfl (N := 16) (t0 := 0) (a0 := (16, .inl (fun _ => 0))) (fr_I (N := 16) rfl (by decide)) (fun _ => rfl) rfl (fun _ q => by cases q) (by decide) (by decide) tw_130 (Nat.le_of_ble_eq_true rfl) (Nat.le_of_ble_eq_true rfl) (Nat.le_of_ble_eq_true rfl) d_Shore_init_7 (fun q31 a1 H hq31 had h => ?_)
  have g30_1 : a1 30 = x := (had 30 (by decide)).trans hx0
  replace hag := ag_trans hag had (by decide)
  refine g_putR C h (k := 30) (q := 31) (by decide) (by decide) g30_1 hq31 rfl (rfl : cls[1]? = some (R_Shore, T_Shore, 6)) in_Shore ty_Shore tyok_Shore nm_Shore 0 (by decide) tw_131 rfl rfl rfl rfl (Nat.le_of_ble_eq_true rfl) rfl rfl d_Shore_init_9 (fun H locs h => ?_)
  refine lv_aload_n hx hb d_Shore_init_12 rfl (lv_at hl 0 rfl) ?_
  refine lv_iconst (v := 4) hx hb d_Shore_init_13 (by decide) ?_
  refine g_newP C h (atype := .int) (ty := .int) rfl (N := 4) (t0 := 0) (a0 := (4, .inl (fun _ => 0))) (fr_I (N := 4) rfl (by decide)) (fun _ => rfl) rfl (fun _ q => by cases q) (by decide) (by decide) tw_130 (Nat.le_of_ble_eq_true rfl) (Nat.le_of_ble_eq_true rfl) (Nat.le_of_ble_eq_true rfl) d_Shore_init_14 (fun q32 a2 H hq32 had h => ?_)
  have g30_2 : a2 30 = x := (had 30 (by decide)).trans g30_1
  have g31_2 : a2 31 = q31 := (had 31 (by decide)).trans hq31
  replace hag := ag_trans hag had (by decide)
  refine g_putR C h (k := 30) (q := 32) (by decide) (by decide) g30_2 hq32 rfl (rfl : cls[1]? = some (R_Shore, T_Shore, 6)) in_Shore ty_Shore tyok_Shore nm_Shore 1 (by decide) tw_133 rfl rfl rfl rfl (Nat.le_of_ble_eq_true rfl) rfl rfl d_Shore_init_16 (fun H locs h => ?_)
  refine lv_aload_n hx hb d_Shore_init_19 rfl (lv_at hl 0 rfl) ?_
  refine lv_bipush (v := 10) hx hb d_Shore_init_20 (by decide) ?_
  refine g_newR C h (N := 10) (t0 := 3) (Cn := "TideLoans$Thing") (fr_RT rfl) rfl (fun q => q.1) (by decide) (by decide) tw_92 (Nat.le_of_ble_eq_true rfl) (Nat.le_of_ble_eq_true rfl) d_Shore_init_22 (fun q33 a3 H hq33 had h => ?_)
  have g30_3 : a3 30 = x := (had 30 (by decide)).trans g30_2
  have g31_3 : a3 31 = q31 := (had 31 (by decide)).trans g31_2
  replace hag := ag_trans hag had (by decide)
  refine g_putR C h (k := 30) (q := 33) (by decide) (by decide) g30_3 hq33 rfl (rfl : cls[1]? = some (R_Shore, T_Shore, 6)) in_Shore ty_Shore tyok_Shore nm_Shore 2 (by decide) tw_135 rfl rfl rfl rfl (Nat.le_of_ble_eq_true rfl) rfl rfl d_Shore_init_25 (fun H locs h => ?_)
  refine lv_aload_n hx hb d_Shore_init_28 rfl (lv_at hl 0 rfl) ?_
  refine lv_iconst (v := 2) hx hb d_Shore_init_29 (by decide) ?_
  refine g_putI C h (k := 30) (by decide) g30_3 rfl (rfl : cls[1]? = some (R_Shore, T_Shore, 6)) in_Shore ty_Shore tyok_Shore nm_Shore 5 (by decide) tw_141 rfl rfl rfl (Nat.le_of_ble_eq_true rfl) rfl rfl d_Shore_init_30 (fun H locs h => ?_)
  refine lv_iconst (v := 0) hx hb d_Shore_init_33 (by decide) ?_
  refine lv_istore_n (lv' := [(1, .int (0 : Int32)), (0, .ref x)]) hx hb d_Shore_init_34 rfl hl (by decide) rfl (fun ls hl => ?_)
  refine lv_iload_n hx hb d_Shore_init_35 rfl (lv_at hl 0 rfl) ?_
  refine lv_bipush (v := 16) hx hb d_Shore_init_36 (by decide) ?_
  refine lv_icmp_ge (tgt := 57) hx hb d_Shore_init_38 (by decide) (fun q => absurd q (by decide)) (fun _ => ?_)
  refine lv_aload_n hx hb d_Shore_init_41 rfl (lv_at hl 1 rfl) ?_
  refine g_get C h (k := 30) (q := 31) (by decide) g30_3 rfl (rfl : cls[1]? = some (R_Shore, T_Shore, 6)) in_Shore 0 (by decide) tw_131 rfl rfl g31_3 d_Shore_init_42 ?_
  refine lv_iload_n hx hb d_Shore_init_45 rfl (lv_at hl 0 rfl) ?_
  refine lv_iload_n hx hb d_Shore_init_46 rfl (lv_at hl 0 rfl) ?_
  refine lv_bipush (v := 10) hx hb d_Shore_init_47 (by decide) ?_
  refine lv_irem hx hb d_Shore_init_49 (by decide) ?_
  refine lv_topi (fun z4 hz4 => ?_)
  replace hz4 : z4 = 0 := hz4.trans (by decide)
  subst hz4
  refine g_stI C h (k := 31) (N := 16) (by decide) g31_3 rfl (by decide) (i0 := 0) (by decide) (by decide) d_Shore_init_50 (fun H locs h => ?_)
  refine lv_iinc (v := 1) (lv' := [(1, .int (1 : Int32)), (0, .ref x)]) hx hb d_Shore_init_51 hl (k := 0) rfl (by decide) (by decide) rfl (fun ls hl => ?_)
  refine lv_goto (tgt := 35) hx hb d_Shore_init_54 (by decide) ?_
  refine lv_iload_n hx hb d_Shore_init_35 rfl (lv_at hl 0 rfl) ?_
  refine lv_bipush (v := 16) hx hb d_Shore_init_36 (by decide) ?_
  refine lv_icmp_ge (tgt := 57) hx hb d_Shore_init_38 (by decide) (fun q => absurd q (by decide)) (fun _ => ?_)
  refine lv_aload_n hx hb d_Shore_init_41 rfl (lv_at hl 1 rfl) ?_
  refine g_get C h (k := 30) (q := 31) (by decide) g30_3 rfl (rfl : cls[1]? = some (R_Shore, T_Shore, 6)) in_Shore 0 (by decide) tw_131 rfl rfl g31_3 d_Shore_init_42 ?_
  refine lv_iload_n hx hb d_Shore_init_45 rfl (lv_at hl 0 rfl) ?_
  refine lv_iload_n hx hb d_Shore_init_46 rfl (lv_at hl 0 rfl) ?_
  refine lv_bipush (v := 10) hx hb d_Shore_init_47 (by decide) ?_
  refine lv_irem hx hb d_Shore_init_49 (by decide) ?_
  refine lv_topi (fun z5 hz5 => ?_)
  replace hz5 : z5 = 1 := hz5.trans (by decide)
  subst hz5
  refine g_stI C h (k := 31) (N := 16) (by decide) g31_3 rfl (by decide) (i0 := 1) (by decide) (by decide) d_Shore_init_50 (fun H locs h => ?_)
  refine lv_iinc (v := 2) (lv' := [(1, .int (2 : Int32)), (0, .ref x)]) hx hb d_Shore_init_51 hl (k := 0) rfl (by decide) (by decide) rfl (fun ls hl => ?_)
  refine lv_goto (tgt := 35) hx hb d_Shore_init_54 (by decide) ?_
  refine lv_iload_n hx hb d_Shore_init_35 rfl (lv_at hl 0 rfl) ?_
  refine lv_bipush (v := 16) hx hb d_Shore_init_36 (by decide) ?_
  refine lv_icmp_ge (tgt := 57) hx hb d_Shore_init_38 (by decide) (fun q => absurd q (by decide)) (fun _ => ?_)
  refine lv_aload_n hx hb d_Shore_init_41 rfl (lv_at hl 1 rfl) ?_
  refine g_get C h (k := 30) (q := 31) (by decide) g30_3 rfl (rfl : cls[1]? = some (R_Shore, T_Shore, 6)) in_Shore 0 (by decide) tw_131 rfl rfl g31_3 d_Shore_init_42 ?_
  refine lv_iload_n hx hb d_Shore_init_45 rfl (lv_at hl 0 rfl) ?_
  refine lv_iload_n hx hb d_Shore_init_46 rfl (lv_at hl 0 rfl) ?_
  refine lv_bipush (v := 10) hx hb d_Shore_init_47 (by decide) ?_
  refine lv_irem hx hb d_Shore_init_49 (by decide) ?_
  refine lv_topi (fun z6 hz6 => ?_)
  replace hz6 : z6 = 2 := hz6.trans (by decide)
  subst hz6
  refine g_stI C h (k := 31) (N := 16) (by decide) g31_3 rfl (by decide) (i0 := 2) (by decide) (by decide) d_Shore_init_50 (fun H locs h => ?_)
  refine lv_iinc (v := 3) (lv' := [(1, .int (3 : Int32)), (0, .ref x)]) hx hb d_Shore_init_51 hl (k := 0) rfl (by decide) (by decide) rfl (fun ls hl => ?_)
  refine lv_goto (tgt := 35) hx hb d_Shore_init_54 (by decide) ?_
  refine lv_iload_n hx hb d_Shore_init_35 rfl (lv_at hl 0 rfl) ?_
  refine lv_bipush (v := 16) hx hb d_Shore_init_36 (by decide) ?_
  refine lv_icmp_ge (tgt := 57) hx hb d_Shore_init_38 (by decide) (fun q => absurd q (by decide)) (fun _ => ?_)
  refine lv_aload_n hx hb d_Shore_init_41 rfl (lv_at hl 1 rfl) ?_
  refine g_get C h (k := 30) (q := 31) (by decide) g30_3 rfl (rfl : cls[1]? = some (R_Shore, T_Shore, 6)) in_Shore 0 (by decide) tw_131 rfl rfl g31_3 d_Shore_init_42 ?_
  refine lv_iload_n hx hb d_Shore_init_45 rfl (lv_at hl 0 rfl) ?_
  refine lv_iload_n hx hb d_Shore_init_46 rfl (lv_at hl 0 rfl) ?_
  refine lv_bipush (v := 10) hx hb d_Shore_init_47 (by decide) ?_
  refine lv_irem hx hb d_Shore_init_49 (by decide) ?_
  refine lv_topi (fun z7 hz7 => ?_)
  replace hz7 : z7 = 3 := hz7.trans (by decide)
  subst hz7
  refine g_stI C h (k := 31) (N := 16) (by decide) g31_3 rfl (by decide) (i0 := 3) (by decide) (by decide) d_Shore_init_50 (fun H locs h => ?_)
  refine lv_iinc (v := 4) (lv' := [(1, .int (4 : Int32)), (0, .ref x)]) hx hb d_Shore_init_51 hl (k := 0) rfl (by decide) (by decide) rfl (fun ls hl => ?_)
  refine lv_goto (tgt := 35) hx hb d_Shore_init_54 (by decide) ?_
  refine lv_iload_n hx hb d_Shore_init_35 rfl (lv_at hl 0 rfl) ?_
  refine lv_bipush (v := 16) hx hb d_Shore_init_36 (by decide) ?_
  refine lv_icmp_ge (tgt := 57) hx hb d_Shore_init_38 (by decide) (fun q => absurd q (by decide)) (fun _ => ?_)
  refine lv_aload_n hx hb d_Shore_init_41 rfl (lv_at hl 1 rfl) ?_
  refine g_get C h (k := 30) (q := 31) (by decide) g30_3 rfl (rfl : cls[1]? = some (R_Shore, T_Shore, 6)) in_Shore 0 (by decide) tw_131 rfl rfl g31_3 d_Shore_init_42 ?_
  refine lv_iload_n hx hb d_Shore_init_45 rfl (lv_at hl 0 rfl) ?_
  refine lv_iload_n hx hb d_Shore_init_46 rfl (lv_at hl 0 rfl) ?_
  refine lv_bipush (v := 10) hx hb d_Shore_init_47 (by decide) ?_
  refine lv_irem hx hb d_Shore_init_49 (by decide) ?_
  refine lv_topi (fun z8 hz8 => ?_)
  replace hz8 : z8 = 4 := hz8.trans (by decide)
  subst hz8
  refine g_stI C h (k := 31) (N := 16) (by decide) g31_3 rfl (by decide) (i0 := 4) (by decide) (by decide) d_Shore_init_50 (fun H locs h => ?_)
  refine lv_iinc (v := 5) (lv' := [(1, .int (5 : Int32)), (0, .ref x)]) hx hb d_Shore_init_51 hl (k := 0) rfl (by decide) (by decide) rfl (fun ls hl => ?_)
  refine lv_goto (tgt := 35) hx hb d_Shore_init_54 (by decide) ?_
  refine lv_iload_n hx hb d_Shore_init_35 rfl (lv_at hl 0 rfl) ?_
  refine lv_bipush (v := 16) hx hb d_Shore_init_36 (by decide) ?_
  refine lv_icmp_ge (tgt := 57) hx hb d_Shore_init_38 (by decide) (fun q => absurd q (by decide)) (fun _ => ?_)
  refine lv_aload_n hx hb d_Shore_init_41 rfl (lv_at hl 1 rfl) ?_
  refine g_get C h (k := 30) (q := 31) (by decide) g30_3 rfl (rfl : cls[1]? = some (R_Shore, T_Shore, 6)) in_Shore 0 (by decide) tw_131 rfl rfl g31_3 d_Shore_init_42 ?_
  refine lv_iload_n hx hb d_Shore_init_45 rfl (lv_at hl 0 rfl) ?_
  refine lv_iload_n hx hb d_Shore_init_46 rfl (lv_at hl 0 rfl) ?_
  refine lv_bipush (v := 10) hx hb d_Shore_init_47 (by decide) ?_
  refine lv_irem hx hb d_Shore_init_49 (by decide) ?_
  refine lv_topi (fun z9 hz9 => ?_)
  replace hz9 : z9 = 5 := hz9.trans (by decide)
  subst hz9
  refine g_stI C h (k := 31) (N := 16) (by decide) g31_3 rfl (by decide) (i0 := 5) (by decide) (by decide) d_Shore_init_50 (fun H locs h => ?_)
  refine lv_iinc (v := 6) (lv' := [(1, .int (6 : Int32)), (0, .ref x)]) hx hb d_Shore_init_51 hl (k := 0) rfl (by decide) (by decide) rfl (fun ls hl => ?_)
  refine lv_goto (tgt := 35) hx hb d_Shore_init_54 (by decide) ?_
  refine lv_iload_n hx hb d_Shore_init_35 rfl (lv_at hl 0 rfl) ?_
  refine lv_bipush (v := 16) hx hb d_Shore_init_36 (by decide) ?_
  refine lv_icmp_ge (tgt := 57) hx hb d_Shore_init_38 (by decide) (fun q => absurd q (by decide)) (fun _ => ?_)
  refine lv_aload_n hx hb d_Shore_init_41 rfl (lv_at hl 1 rfl) ?_
  refine g_get C h (k := 30) (q := 31) (by decide) g30_3 rfl (rfl : cls[1]? = some (R_Shore, T_Shore, 6)) in_Shore 0 (by decide) tw_131 rfl rfl g31_3 d_Shore_init_42 ?_
  refine lv_iload_n hx hb d_Shore_init_45 rfl (lv_at hl 0 rfl) ?_
  refine lv_iload_n hx hb d_Shore_init_46 rfl (lv_at hl 0 rfl) ?_
  refine lv_bipush (v := 10) hx hb d_Shore_init_47 (by decide) ?_
  refine lv_irem hx hb d_Shore_init_49 (by decide) ?_
  refine lv_topi (fun z10 hz10 => ?_)
  replace hz10 : z10 = 6 := hz10.trans (by decide)
  subst hz10
  refine g_stI C h (k := 31) (N := 16) (by decide) g31_3 rfl (by decide) (i0 := 6) (by decide) (by decide) d_Shore_init_50 (fun H locs h => ?_)
  refine lv_iinc (v := 7) (lv' := [(1, .int (7 : Int32)), (0, .ref x)]) hx hb d_Shore_init_51 hl (k := 0) rfl (by decide) (by decide) rfl (fun ls hl => ?_)
  refine lv_goto (tgt := 35) hx hb d_Shore_init_54 (by decide) ?_
  refine lv_iload_n hx hb d_Shore_init_35 rfl (lv_at hl 0 rfl) ?_
  refine lv_bipush (v := 16) hx hb d_Shore_init_36 (by decide) ?_
  refine lv_icmp_ge (tgt := 57) hx hb d_Shore_init_38 (by decide) (fun q => absurd q (by decide)) (fun _ => ?_)
  refine lv_aload_n hx hb d_Shore_init_41 rfl (lv_at hl 1 rfl) ?_
  refine g_get C h (k := 30) (q := 31) (by decide) g30_3 rfl (rfl : cls[1]? = some (R_Shore, T_Shore, 6)) in_Shore 0 (by decide) tw_131 rfl rfl g31_3 d_Shore_init_42 ?_
  refine lv_iload_n hx hb d_Shore_init_45 rfl (lv_at hl 0 rfl) ?_
  refine lv_iload_n hx hb d_Shore_init_46 rfl (lv_at hl 0 rfl) ?_
  refine lv_bipush (v := 10) hx hb d_Shore_init_47 (by decide) ?_
  refine lv_irem hx hb d_Shore_init_49 (by decide) ?_
  refine lv_topi (fun z11 hz11 => ?_)
  replace hz11 : z11 = 7 := hz11.trans (by decide)
  subst hz11
  refine g_stI C h (k := 31) (N := 16) (by decide) g31_3 rfl (by decide) (i0 := 7) (by decide) (by decide) d_Shore_init_50 (fun H locs h => ?_)
  refine lv_iinc (v := 8) (lv' := [(1, .int (8 : Int32)), (0, .ref x)]) hx hb d_Shore_init_51 hl (k := 0) rfl (by decide) (by decide) rfl (fun ls hl => ?_)
  refine lv_goto (tgt := 35) hx hb d_Shore_init_54 (by decide) ?_
  refine lv_iload_n hx hb d_Shore_init_35 rfl (lv_at hl 0 rfl) ?_
  refine lv_bipush (v := 16) hx hb d_Shore_init_36 (by decide) ?_
  refine lv_icmp_ge (tgt := 57) hx hb d_Shore_init_38 (by decide) (fun q => absurd q (by decide)) (fun _ => ?_)
  refine lv_aload_n hx hb d_Shore_init_41 rfl (lv_at hl 1 rfl) ?_
  refine g_get C h (k := 30) (q := 31) (by decide) g30_3 rfl (rfl : cls[1]? = some (R_Shore, T_Shore, 6)) in_Shore 0 (by decide) tw_131 rfl rfl g31_3 d_Shore_init_42 ?_
  refine lv_iload_n hx hb d_Shore_init_45 rfl (lv_at hl 0 rfl) ?_
  refine lv_iload_n hx hb d_Shore_init_46 rfl (lv_at hl 0 rfl) ?_
  refine lv_bipush (v := 10) hx hb d_Shore_init_47 (by decide) ?_
  refine lv_irem hx hb d_Shore_init_49 (by decide) ?_
  refine lv_topi (fun z12 hz12 => ?_)
  replace hz12 : z12 = 8 := hz12.trans (by decide)
  subst hz12
  refine g_stI C h (k := 31) (N := 16) (by decide) g31_3 rfl (by decide) (i0 := 8) (by decide) (by decide) d_Shore_init_50 (fun H locs h => ?_)
  refine lv_iinc (v := 9) (lv' := [(1, .int (9 : Int32)), (0, .ref x)]) hx hb d_Shore_init_51 hl (k := 0) rfl (by decide) (by decide) rfl (fun ls hl => ?_)
  refine lv_goto (tgt := 35) hx hb d_Shore_init_54 (by decide) ?_
  refine lv_iload_n hx hb d_Shore_init_35 rfl (lv_at hl 0 rfl) ?_
  refine lv_bipush (v := 16) hx hb d_Shore_init_36 (by decide) ?_
  refine lv_icmp_ge (tgt := 57) hx hb d_Shore_init_38 (by decide) (fun q => absurd q (by decide)) (fun _ => ?_)
  refine lv_aload_n hx hb d_Shore_init_41 rfl (lv_at hl 1 rfl) ?_
  refine g_get C h (k := 30) (q := 31) (by decide) g30_3 rfl (rfl : cls[1]? = some (R_Shore, T_Shore, 6)) in_Shore 0 (by decide) tw_131 rfl rfl g31_3 d_Shore_init_42 ?_
  refine lv_iload_n hx hb d_Shore_init_45 rfl (lv_at hl 0 rfl) ?_
  refine lv_iload_n hx hb d_Shore_init_46 rfl (lv_at hl 0 rfl) ?_
  refine lv_bipush (v := 10) hx hb d_Shore_init_47 (by decide) ?_
  refine lv_irem hx hb d_Shore_init_49 (by decide) ?_
  refine lv_topi (fun z13 hz13 => ?_)
  replace hz13 : z13 = 9 := hz13.trans (by decide)
  subst hz13
  refine g_stI C h (k := 31) (N := 16) (by decide) g31_3 rfl (by decide) (i0 := 9) (by decide) (by decide) d_Shore_init_50 (fun H locs h => ?_)
  refine lv_iinc (v := 10) (lv' := [(1, .int (10 : Int32)), (0, .ref x)]) hx hb d_Shore_init_51 hl (k := 0) rfl (by decide) (by decide) rfl (fun ls hl => ?_)
  refine lv_goto (tgt := 35) hx hb d_Shore_init_54 (by decide) ?_
  refine lv_iload_n hx hb d_Shore_init_35 rfl (lv_at hl 0 rfl) ?_
  refine lv_bipush (v := 16) hx hb d_Shore_init_36 (by decide) ?_
  refine lv_icmp_ge (tgt := 57) hx hb d_Shore_init_38 (by decide) (fun q => absurd q (by decide)) (fun _ => ?_)
  refine lv_aload_n hx hb d_Shore_init_41 rfl (lv_at hl 1 rfl) ?_
  refine g_get C h (k := 30) (q := 31) (by decide) g30_3 rfl (rfl : cls[1]? = some (R_Shore, T_Shore, 6)) in_Shore 0 (by decide) tw_131 rfl rfl g31_3 d_Shore_init_42 ?_
  refine lv_iload_n hx hb d_Shore_init_45 rfl (lv_at hl 0 rfl) ?_
  refine lv_iload_n hx hb d_Shore_init_46 rfl (lv_at hl 0 rfl) ?_
  refine lv_bipush (v := 10) hx hb d_Shore_init_47 (by decide) ?_
  refine lv_irem hx hb d_Shore_init_49 (by decide) ?_
  refine lv_topi (fun z14 hz14 => ?_)
  replace hz14 : z14 = 0 := hz14.trans (by decide)
  subst hz14
  refine g_stI C h (k := 31) (N := 16) (by decide) g31_3 rfl (by decide) (i0 := 10) (by decide) (by decide) d_Shore_init_50 (fun H locs h => ?_)
  refine lv_iinc (v := 11) (lv' := [(1, .int (11 : Int32)), (0, .ref x)]) hx hb d_Shore_init_51 hl (k := 0) rfl (by decide) (by decide) rfl (fun ls hl => ?_)
  refine lv_goto (tgt := 35) hx hb d_Shore_init_54 (by decide) ?_
  refine lv_iload_n hx hb d_Shore_init_35 rfl (lv_at hl 0 rfl) ?_
  refine lv_bipush (v := 16) hx hb d_Shore_init_36 (by decide) ?_
  refine lv_icmp_ge (tgt := 57) hx hb d_Shore_init_38 (by decide) (fun q => absurd q (by decide)) (fun _ => ?_)
  refine lv_aload_n hx hb d_Shore_init_41 rfl (lv_at hl 1 rfl) ?_
  refine g_get C h (k := 30) (q := 31) (by decide) g30_3 rfl (rfl : cls[1]? = some (R_Shore, T_Shore, 6)) in_Shore 0 (by decide) tw_131 rfl rfl g31_3 d_Shore_init_42 ?_
  refine lv_iload_n hx hb d_Shore_init_45 rfl (lv_at hl 0 rfl) ?_
  refine lv_iload_n hx hb d_Shore_init_46 rfl (lv_at hl 0 rfl) ?_
  refine lv_bipush (v := 10) hx hb d_Shore_init_47 (by decide) ?_
  refine lv_irem hx hb d_Shore_init_49 (by decide) ?_
  refine lv_topi (fun z15 hz15 => ?_)
  replace hz15 : z15 = 1 := hz15.trans (by decide)
  subst hz15
  refine g_stI C h (k := 31) (N := 16) (by decide) g31_3 rfl (by decide) (i0 := 11) (by decide) (by decide) d_Shore_init_50 (fun H locs h => ?_)
  refine lv_iinc (v := 12) (lv' := [(1, .int (12 : Int32)), (0, .ref x)]) hx hb d_Shore_init_51 hl (k := 0) rfl (by decide) (by decide) rfl (fun ls hl => ?_)
  refine lv_goto (tgt := 35) hx hb d_Shore_init_54 (by decide) ?_
  refine lv_iload_n hx hb d_Shore_init_35 rfl (lv_at hl 0 rfl) ?_
  refine lv_bipush (v := 16) hx hb d_Shore_init_36 (by decide) ?_
  refine lv_icmp_ge (tgt := 57) hx hb d_Shore_init_38 (by decide) (fun q => absurd q (by decide)) (fun _ => ?_)
  refine lv_aload_n hx hb d_Shore_init_41 rfl (lv_at hl 1 rfl) ?_
  refine g_get C h (k := 30) (q := 31) (by decide) g30_3 rfl (rfl : cls[1]? = some (R_Shore, T_Shore, 6)) in_Shore 0 (by decide) tw_131 rfl rfl g31_3 d_Shore_init_42 ?_
  refine lv_iload_n hx hb d_Shore_init_45 rfl (lv_at hl 0 rfl) ?_
  refine lv_iload_n hx hb d_Shore_init_46 rfl (lv_at hl 0 rfl) ?_
  refine lv_bipush (v := 10) hx hb d_Shore_init_47 (by decide) ?_
  refine lv_irem hx hb d_Shore_init_49 (by decide) ?_
  refine lv_topi (fun z16 hz16 => ?_)
  replace hz16 : z16 = 2 := hz16.trans (by decide)
  subst hz16
  refine g_stI C h (k := 31) (N := 16) (by decide) g31_3 rfl (by decide) (i0 := 12) (by decide) (by decide) d_Shore_init_50 (fun H locs h => ?_)
  refine lv_iinc (v := 13) (lv' := [(1, .int (13 : Int32)), (0, .ref x)]) hx hb d_Shore_init_51 hl (k := 0) rfl (by decide) (by decide) rfl (fun ls hl => ?_)
  refine lv_goto (tgt := 35) hx hb d_Shore_init_54 (by decide) ?_
  refine lv_iload_n hx hb d_Shore_init_35 rfl (lv_at hl 0 rfl) ?_
  refine lv_bipush (v := 16) hx hb d_Shore_init_36 (by decide) ?_
  refine lv_icmp_ge (tgt := 57) hx hb d_Shore_init_38 (by decide) (fun q => absurd q (by decide)) (fun _ => ?_)
  refine lv_aload_n hx hb d_Shore_init_41 rfl (lv_at hl 1 rfl) ?_
  refine g_get C h (k := 30) (q := 31) (by decide) g30_3 rfl (rfl : cls[1]? = some (R_Shore, T_Shore, 6)) in_Shore 0 (by decide) tw_131 rfl rfl g31_3 d_Shore_init_42 ?_
  refine lv_iload_n hx hb d_Shore_init_45 rfl (lv_at hl 0 rfl) ?_
  refine lv_iload_n hx hb d_Shore_init_46 rfl (lv_at hl 0 rfl) ?_
  refine lv_bipush (v := 10) hx hb d_Shore_init_47 (by decide) ?_
  refine lv_irem hx hb d_Shore_init_49 (by decide) ?_
  refine lv_topi (fun z17 hz17 => ?_)
  replace hz17 : z17 = 3 := hz17.trans (by decide)
  subst hz17
  refine g_stI C h (k := 31) (N := 16) (by decide) g31_3 rfl (by decide) (i0 := 13) (by decide) (by decide) d_Shore_init_50 (fun H locs h => ?_)
  refine lv_iinc (v := 14) (lv' := [(1, .int (14 : Int32)), (0, .ref x)]) hx hb d_Shore_init_51 hl (k := 0) rfl (by decide) (by decide) rfl (fun ls hl => ?_)
  refine lv_goto (tgt := 35) hx hb d_Shore_init_54 (by decide) ?_
  refine lv_iload_n hx hb d_Shore_init_35 rfl (lv_at hl 0 rfl) ?_
  refine lv_bipush (v := 16) hx hb d_Shore_init_36 (by decide) ?_
  refine lv_icmp_ge (tgt := 57) hx hb d_Shore_init_38 (by decide) (fun q => absurd q (by decide)) (fun _ => ?_)
  refine lv_aload_n hx hb d_Shore_init_41 rfl (lv_at hl 1 rfl) ?_
  refine g_get C h (k := 30) (q := 31) (by decide) g30_3 rfl (rfl : cls[1]? = some (R_Shore, T_Shore, 6)) in_Shore 0 (by decide) tw_131 rfl rfl g31_3 d_Shore_init_42 ?_
  refine lv_iload_n hx hb d_Shore_init_45 rfl (lv_at hl 0 rfl) ?_
  refine lv_iload_n hx hb d_Shore_init_46 rfl (lv_at hl 0 rfl) ?_
  refine lv_bipush (v := 10) hx hb d_Shore_init_47 (by decide) ?_
  refine lv_irem hx hb d_Shore_init_49 (by decide) ?_
  refine lv_topi (fun z18 hz18 => ?_)
  replace hz18 : z18 = 4 := hz18.trans (by decide)
  subst hz18
  refine g_stI C h (k := 31) (N := 16) (by decide) g31_3 rfl (by decide) (i0 := 14) (by decide) (by decide) d_Shore_init_50 (fun H locs h => ?_)
  refine lv_iinc (v := 15) (lv' := [(1, .int (15 : Int32)), (0, .ref x)]) hx hb d_Shore_init_51 hl (k := 0) rfl (by decide) (by decide) rfl (fun ls hl => ?_)
  refine lv_goto (tgt := 35) hx hb d_Shore_init_54 (by decide) ?_
  refine lv_iload_n hx hb d_Shore_init_35 rfl (lv_at hl 0 rfl) ?_
  refine lv_bipush (v := 16) hx hb d_Shore_init_36 (by decide) ?_
  refine lv_icmp_ge (tgt := 57) hx hb d_Shore_init_38 (by decide) (fun q => absurd q (by decide)) (fun _ => ?_)
  refine lv_aload_n hx hb d_Shore_init_41 rfl (lv_at hl 1 rfl) ?_
  refine g_get C h (k := 30) (q := 31) (by decide) g30_3 rfl (rfl : cls[1]? = some (R_Shore, T_Shore, 6)) in_Shore 0 (by decide) tw_131 rfl rfl g31_3 d_Shore_init_42 ?_
  refine lv_iload_n hx hb d_Shore_init_45 rfl (lv_at hl 0 rfl) ?_
  refine lv_iload_n hx hb d_Shore_init_46 rfl (lv_at hl 0 rfl) ?_
  refine lv_bipush (v := 10) hx hb d_Shore_init_47 (by decide) ?_
  refine lv_irem hx hb d_Shore_init_49 (by decide) ?_
  refine lv_topi (fun z19 hz19 => ?_)
  replace hz19 : z19 = 5 := hz19.trans (by decide)
  subst hz19
  refine g_stI C h (k := 31) (N := 16) (by decide) g31_3 rfl (by decide) (i0 := 15) (by decide) (by decide) d_Shore_init_50 (fun H locs h => ?_)
  refine lv_iinc (v := 16) (lv' := [(1, .int (16 : Int32)), (0, .ref x)]) hx hb d_Shore_init_51 hl (k := 0) rfl (by decide) (by decide) rfl (fun ls hl => ?_)
  refine lv_goto (tgt := 35) hx hb d_Shore_init_54 (by decide) ?_
  refine lv_iload_n hx hb d_Shore_init_35 rfl (lv_at hl 0 rfl) ?_
  refine lv_bipush (v := 16) hx hb d_Shore_init_36 (by decide) ?_
  refine lv_icmp_ge (tgt := 57) hx hb d_Shore_init_38 (by decide) (fun _ => ?_) (fun q => absurd (by decide) q)
  refine lv_iconst (v := 0) hx hb d_Shore_init_57 (by decide) ?_
  refine lv_istore_n (lv' := [(1, .int (0 : Int32)), (0, .ref x)]) hx hb d_Shore_init_58 rfl hl (by decide) rfl (fun ls hl => ?_)
  refine lv_iload_n hx hb d_Shore_init_59 rfl (lv_at hl 0 rfl) ?_
  refine lv_bipush (v := 10) hx hb d_Shore_init_60 (by decide) ?_
  refine lv_icmp_ge (tgt := 84) hx hb d_Shore_init_62 (by decide) (fun q => absurd q (by decide)) (fun _ => ?_)
  refine lv_aload_n hx hb d_Shore_init_65 rfl (lv_at hl 1 rfl) ?_
  refine g_get C h (k := 30) (q := 33) (by decide) g30_3 rfl (rfl : cls[1]? = some (R_Shore, T_Shore, 6)) in_Shore 2 (by decide) tw_135 rfl rfl hq33 d_Shore_init_66 ?_
  refine lv_iload_n hx hb d_Shore_init_69 rfl (lv_at hl 0 rfl) ?_
  refine g_new C h (N := 6) (ci := 3) in_Thing ty_Thing tyok_Thing tw_92 tw_94 tw_66 rfl (fr_Thing rfl) df_Thing (Nat.le_of_ble_eq_true rfl) (Nat.le_of_ble_eq_true rfl) d_Shore_init_70 (fun q34 a20 H hq34 had h => ?_)
  have g30_20 : a20 30 = x := (had 30 (by decide)).trans g30_3
  have g31_20 : a20 31 = q31 := (had 31 (by decide)).trans g31_3
  have g33_20 : a20 33 = q33 := (had 33 (by decide)).trans hq33
  replace hag := ag_trans hag had (by decide)
  refine lv_dup hx hb d_Shore_init_73 rfl ?_
  refine g_callN C h (kc_Thing (n := 35)) cw_Thing_init ini_Thing_init ins_Thing_init rfl tw_95 hd_Thing_init ⟨⟨rfl, rfl⟩, (Nat.le_of_ble_eq_true rfl), (Nat.le_of_ble_eq_true rfl)⟩ ⟨(Nat.le_of_ble_eq_true rfl), (Nat.le_of_ble_eq_true rfl)⟩ hl.1 (Nat.le_of_ble_eq_true rfl) d_Shore_init_74 (fun a21 H locs had h => ?_)
  have g30_21 : a21 30 = x := (had 30 (by decide)).trans g30_20
  have g31_21 : a21 31 = q31 := (had 31 (by decide)).trans g31_20
  have g33_21 : a21 33 = q33 := (had 33 (by decide)).trans g33_20
  have g34_21 : a21 34 = q34 := (had 34 (by decide)).trans hq34
  replace hag := ag_trans hag had (by decide)
  refine g_stR C h (k := 33) (q := 34) (N := 10) (t0 := 3) (r := (R_Thing, T_Thing, 6)) (by decide) (by decide) g33_21 g34_21 (cg_RT rfl) rfl rfl (rfl : cls[3]? = some (R_Thing, T_Thing, 6)) (i0 := 0) (by decide) (by decide) (by decide) d_Shore_init_77 (fun H locs h => ?_)
  refine lv_iinc (v := 1) (lv' := [(1, .int (1 : Int32)), (0, .ref x)]) hx hb d_Shore_init_78 hl (k := 0) rfl (by decide) (by decide) rfl (fun ls hl => ?_)
  refine lv_goto (tgt := 59) hx hb d_Shore_init_81 (by decide) ?_
  refine lv_iload_n hx hb d_Shore_init_59 rfl (lv_at hl 0 rfl) ?_
  refine lv_bipush (v := 10) hx hb d_Shore_init_60 (by decide) ?_
  refine lv_icmp_ge (tgt := 84) hx hb d_Shore_init_62 (by decide) (fun q => absurd q (by decide)) (fun _ => ?_)
  refine lv_aload_n hx hb d_Shore_init_65 rfl (lv_at hl 1 rfl) ?_
  refine g_get C h (k := 30) (q := 33) (by decide) g30_21 rfl (rfl : cls[1]? = some (R_Shore, T_Shore, 6)) in_Shore 2 (by decide) tw_135 rfl rfl g33_21 d_Shore_init_66 ?_
  refine lv_iload_n hx hb d_Shore_init_69 rfl (lv_at hl 0 rfl) ?_
  refine g_new C h (N := 6) (ci := 3) in_Thing ty_Thing tyok_Thing tw_92 tw_94 tw_66 rfl (fr_Thing rfl) df_Thing (Nat.le_of_ble_eq_true rfl) (Nat.le_of_ble_eq_true rfl) d_Shore_init_70 (fun q35 a22 H hq35 had h => ?_)
  have g30_22 : a22 30 = x := (had 30 (by decide)).trans g30_21
  have g31_22 : a22 31 = q31 := (had 31 (by decide)).trans g31_21
  have g33_22 : a22 33 = q33 := (had 33 (by decide)).trans g33_21
  replace hag := ag_trans hag had (by decide)
  refine lv_dup hx hb d_Shore_init_73 rfl ?_
  refine g_callN C h (kc_Thing (n := 36)) cw_Thing_init ini_Thing_init ins_Thing_init rfl tw_95 hd_Thing_init ⟨⟨rfl, rfl⟩, (Nat.le_of_ble_eq_true rfl), (Nat.le_of_ble_eq_true rfl)⟩ ⟨(Nat.le_of_ble_eq_true rfl), (Nat.le_of_ble_eq_true rfl)⟩ hl.1 (Nat.le_of_ble_eq_true rfl) d_Shore_init_74 (fun a23 H locs had h => ?_)
  have g30_23 : a23 30 = x := (had 30 (by decide)).trans g30_22
  have g31_23 : a23 31 = q31 := (had 31 (by decide)).trans g31_22
  have g33_23 : a23 33 = q33 := (had 33 (by decide)).trans g33_22
  have g35_23 : a23 35 = q35 := (had 35 (by decide)).trans hq35
  replace hag := ag_trans hag had (by decide)
  refine g_stR C h (k := 33) (q := 35) (N := 10) (t0 := 3) (r := (R_Thing, T_Thing, 6)) (by decide) (by decide) g33_23 g35_23 (cg_RT rfl) rfl rfl (rfl : cls[3]? = some (R_Thing, T_Thing, 6)) (i0 := 1) (by decide) (by decide) (by decide) d_Shore_init_77 (fun H locs h => ?_)
  refine lv_iinc (v := 2) (lv' := [(1, .int (2 : Int32)), (0, .ref x)]) hx hb d_Shore_init_78 hl (k := 0) rfl (by decide) (by decide) rfl (fun ls hl => ?_)
  refine lv_goto (tgt := 59) hx hb d_Shore_init_81 (by decide) ?_
  refine lv_iload_n hx hb d_Shore_init_59 rfl (lv_at hl 0 rfl) ?_
  refine lv_bipush (v := 10) hx hb d_Shore_init_60 (by decide) ?_
  refine lv_icmp_ge (tgt := 84) hx hb d_Shore_init_62 (by decide) (fun q => absurd q (by decide)) (fun _ => ?_)
  refine lv_aload_n hx hb d_Shore_init_65 rfl (lv_at hl 1 rfl) ?_
  refine g_get C h (k := 30) (q := 33) (by decide) g30_23 rfl (rfl : cls[1]? = some (R_Shore, T_Shore, 6)) in_Shore 2 (by decide) tw_135 rfl rfl g33_23 d_Shore_init_66 ?_
  refine lv_iload_n hx hb d_Shore_init_69 rfl (lv_at hl 0 rfl) ?_
  refine g_new C h (N := 6) (ci := 3) in_Thing ty_Thing tyok_Thing tw_92 tw_94 tw_66 rfl (fr_Thing rfl) df_Thing (Nat.le_of_ble_eq_true rfl) (Nat.le_of_ble_eq_true rfl) d_Shore_init_70 (fun q36 a24 H hq36 had h => ?_)
  have g30_24 : a24 30 = x := (had 30 (by decide)).trans g30_23
  have g31_24 : a24 31 = q31 := (had 31 (by decide)).trans g31_23
  have g33_24 : a24 33 = q33 := (had 33 (by decide)).trans g33_23
  replace hag := ag_trans hag had (by decide)
  refine lv_dup hx hb d_Shore_init_73 rfl ?_
  refine g_callN C h (kc_Thing (n := 37)) cw_Thing_init ini_Thing_init ins_Thing_init rfl tw_95 hd_Thing_init ⟨⟨rfl, rfl⟩, (Nat.le_of_ble_eq_true rfl), (Nat.le_of_ble_eq_true rfl)⟩ ⟨(Nat.le_of_ble_eq_true rfl), (Nat.le_of_ble_eq_true rfl)⟩ hl.1 (Nat.le_of_ble_eq_true rfl) d_Shore_init_74 (fun a25 H locs had h => ?_)
  have g30_25 : a25 30 = x := (had 30 (by decide)).trans g30_24
  have g31_25 : a25 31 = q31 := (had 31 (by decide)).trans g31_24
  have g33_25 : a25 33 = q33 := (had 33 (by decide)).trans g33_24
  have g36_25 : a25 36 = q36 := (had 36 (by decide)).trans hq36
  replace hag := ag_trans hag had (by decide)
  refine g_stR C h (k := 33) (q := 36) (N := 10) (t0 := 3) (r := (R_Thing, T_Thing, 6)) (by decide) (by decide) g33_25 g36_25 (cg_RT rfl) rfl rfl (rfl : cls[3]? = some (R_Thing, T_Thing, 6)) (i0 := 2) (by decide) (by decide) (by decide) d_Shore_init_77 (fun H locs h => ?_)
  refine lv_iinc (v := 3) (lv' := [(1, .int (3 : Int32)), (0, .ref x)]) hx hb d_Shore_init_78 hl (k := 0) rfl (by decide) (by decide) rfl (fun ls hl => ?_)
  refine lv_goto (tgt := 59) hx hb d_Shore_init_81 (by decide) ?_
  refine lv_iload_n hx hb d_Shore_init_59 rfl (lv_at hl 0 rfl) ?_
  refine lv_bipush (v := 10) hx hb d_Shore_init_60 (by decide) ?_
  refine lv_icmp_ge (tgt := 84) hx hb d_Shore_init_62 (by decide) (fun q => absurd q (by decide)) (fun _ => ?_)
  refine lv_aload_n hx hb d_Shore_init_65 rfl (lv_at hl 1 rfl) ?_
  refine g_get C h (k := 30) (q := 33) (by decide) g30_25 rfl (rfl : cls[1]? = some (R_Shore, T_Shore, 6)) in_Shore 2 (by decide) tw_135 rfl rfl g33_25 d_Shore_init_66 ?_
  refine lv_iload_n hx hb d_Shore_init_69 rfl (lv_at hl 0 rfl) ?_
  refine g_new C h (N := 6) (ci := 3) in_Thing ty_Thing tyok_Thing tw_92 tw_94 tw_66 rfl (fr_Thing rfl) df_Thing (Nat.le_of_ble_eq_true rfl) (Nat.le_of_ble_eq_true rfl) d_Shore_init_70 (fun q37 a26 H hq37 had h => ?_)
  have g30_26 : a26 30 = x := (had 30 (by decide)).trans g30_25
  have g31_26 : a26 31 = q31 := (had 31 (by decide)).trans g31_25
  have g33_26 : a26 33 = q33 := (had 33 (by decide)).trans g33_25
  replace hag := ag_trans hag had (by decide)
  refine lv_dup hx hb d_Shore_init_73 rfl ?_
  refine g_callN C h (kc_Thing (n := 38)) cw_Thing_init ini_Thing_init ins_Thing_init rfl tw_95 hd_Thing_init ⟨⟨rfl, rfl⟩, (Nat.le_of_ble_eq_true rfl), (Nat.le_of_ble_eq_true rfl)⟩ ⟨(Nat.le_of_ble_eq_true rfl), (Nat.le_of_ble_eq_true rfl)⟩ hl.1 (Nat.le_of_ble_eq_true rfl) d_Shore_init_74 (fun a27 H locs had h => ?_)
  have g30_27 : a27 30 = x := (had 30 (by decide)).trans g30_26
  have g31_27 : a27 31 = q31 := (had 31 (by decide)).trans g31_26
  have g33_27 : a27 33 = q33 := (had 33 (by decide)).trans g33_26
  have g37_27 : a27 37 = q37 := (had 37 (by decide)).trans hq37
  replace hag := ag_trans hag had (by decide)
  refine g_stR C h (k := 33) (q := 37) (N := 10) (t0 := 3) (r := (R_Thing, T_Thing, 6)) (by decide) (by decide) g33_27 g37_27 (cg_RT rfl) rfl rfl (rfl : cls[3]? = some (R_Thing, T_Thing, 6)) (i0 := 3) (by decide) (by decide) (by decide) d_Shore_init_77 (fun H locs h => ?_)
  refine lv_iinc (v := 4) (lv' := [(1, .int (4 : Int32)), (0, .ref x)]) hx hb d_Shore_init_78 hl (k := 0) rfl (by decide) (by decide) rfl (fun ls hl => ?_)
  refine lv_goto (tgt := 59) hx hb d_Shore_init_81 (by decide) ?_
  refine lv_iload_n hx hb d_Shore_init_59 rfl (lv_at hl 0 rfl) ?_
  refine lv_bipush (v := 10) hx hb d_Shore_init_60 (by decide) ?_
  refine lv_icmp_ge (tgt := 84) hx hb d_Shore_init_62 (by decide) (fun q => absurd q (by decide)) (fun _ => ?_)
  refine lv_aload_n hx hb d_Shore_init_65 rfl (lv_at hl 1 rfl) ?_
  refine g_get C h (k := 30) (q := 33) (by decide) g30_27 rfl (rfl : cls[1]? = some (R_Shore, T_Shore, 6)) in_Shore 2 (by decide) tw_135 rfl rfl g33_27 d_Shore_init_66 ?_
  refine lv_iload_n hx hb d_Shore_init_69 rfl (lv_at hl 0 rfl) ?_
  refine g_new C h (N := 6) (ci := 3) in_Thing ty_Thing tyok_Thing tw_92 tw_94 tw_66 rfl (fr_Thing rfl) df_Thing (Nat.le_of_ble_eq_true rfl) (Nat.le_of_ble_eq_true rfl) d_Shore_init_70 (fun q38 a28 H hq38 had h => ?_)
  have g30_28 : a28 30 = x := (had 30 (by decide)).trans g30_27
  have g31_28 : a28 31 = q31 := (had 31 (by decide)).trans g31_27
  have g33_28 : a28 33 = q33 := (had 33 (by decide)).trans g33_27
  replace hag := ag_trans hag had (by decide)
  refine lv_dup hx hb d_Shore_init_73 rfl ?_
  refine g_callN C h (kc_Thing (n := 39)) cw_Thing_init ini_Thing_init ins_Thing_init rfl tw_95 hd_Thing_init ⟨⟨rfl, rfl⟩, (Nat.le_of_ble_eq_true rfl), (Nat.le_of_ble_eq_true rfl)⟩ ⟨(Nat.le_of_ble_eq_true rfl), (Nat.le_of_ble_eq_true rfl)⟩ hl.1 (Nat.le_of_ble_eq_true rfl) d_Shore_init_74 (fun a29 H locs had h => ?_)
  have g30_29 : a29 30 = x := (had 30 (by decide)).trans g30_28
  have g31_29 : a29 31 = q31 := (had 31 (by decide)).trans g31_28
  have g33_29 : a29 33 = q33 := (had 33 (by decide)).trans g33_28
  have g38_29 : a29 38 = q38 := (had 38 (by decide)).trans hq38
  replace hag := ag_trans hag had (by decide)
  refine g_stR C h (k := 33) (q := 38) (N := 10) (t0 := 3) (r := (R_Thing, T_Thing, 6)) (by decide) (by decide) g33_29 g38_29 (cg_RT rfl) rfl rfl (rfl : cls[3]? = some (R_Thing, T_Thing, 6)) (i0 := 4) (by decide) (by decide) (by decide) d_Shore_init_77 (fun H locs h => ?_)
  refine lv_iinc (v := 5) (lv' := [(1, .int (5 : Int32)), (0, .ref x)]) hx hb d_Shore_init_78 hl (k := 0) rfl (by decide) (by decide) rfl (fun ls hl => ?_)
  refine lv_goto (tgt := 59) hx hb d_Shore_init_81 (by decide) ?_
  refine lv_iload_n hx hb d_Shore_init_59 rfl (lv_at hl 0 rfl) ?_
  refine lv_bipush (v := 10) hx hb d_Shore_init_60 (by decide) ?_
  refine lv_icmp_ge (tgt := 84) hx hb d_Shore_init_62 (by decide) (fun q => absurd q (by decide)) (fun _ => ?_)
  refine lv_aload_n hx hb d_Shore_init_65 rfl (lv_at hl 1 rfl) ?_
  refine g_get C h (k := 30) (q := 33) (by decide) g30_29 rfl (rfl : cls[1]? = some (R_Shore, T_Shore, 6)) in_Shore 2 (by decide) tw_135 rfl rfl g33_29 d_Shore_init_66 ?_
  refine lv_iload_n hx hb d_Shore_init_69 rfl (lv_at hl 0 rfl) ?_
  refine g_new C h (N := 6) (ci := 3) in_Thing ty_Thing tyok_Thing tw_92 tw_94 tw_66 rfl (fr_Thing rfl) df_Thing (Nat.le_of_ble_eq_true rfl) (Nat.le_of_ble_eq_true rfl) d_Shore_init_70 (fun q39 a30 H hq39 had h => ?_)
  have g30_30 : a30 30 = x := (had 30 (by decide)).trans g30_29
  have g31_30 : a30 31 = q31 := (had 31 (by decide)).trans g31_29
  have g33_30 : a30 33 = q33 := (had 33 (by decide)).trans g33_29
  replace hag := ag_trans hag had (by decide)
  refine lv_dup hx hb d_Shore_init_73 rfl ?_
  refine g_callN C h (kc_Thing (n := 40)) cw_Thing_init ini_Thing_init ins_Thing_init rfl tw_95 hd_Thing_init ⟨⟨rfl, rfl⟩, (Nat.le_of_ble_eq_true rfl), (Nat.le_of_ble_eq_true rfl)⟩ ⟨(Nat.le_of_ble_eq_true rfl), (Nat.le_of_ble_eq_true rfl)⟩ hl.1 (Nat.le_of_ble_eq_true rfl) d_Shore_init_74 (fun a31 H locs had h => ?_)
  have g30_31 : a31 30 = x := (had 30 (by decide)).trans g30_30
  have g31_31 : a31 31 = q31 := (had 31 (by decide)).trans g31_30
  have g33_31 : a31 33 = q33 := (had 33 (by decide)).trans g33_30
  have g39_31 : a31 39 = q39 := (had 39 (by decide)).trans hq39
  replace hag := ag_trans hag had (by decide)
  refine g_stR C h (k := 33) (q := 39) (N := 10) (t0 := 3) (r := (R_Thing, T_Thing, 6)) (by decide) (by decide) g33_31 g39_31 (cg_RT rfl) rfl rfl (rfl : cls[3]? = some (R_Thing, T_Thing, 6)) (i0 := 5) (by decide) (by decide) (by decide) d_Shore_init_77 (fun H locs h => ?_)
  refine lv_iinc (v := 6) (lv' := [(1, .int (6 : Int32)), (0, .ref x)]) hx hb d_Shore_init_78 hl (k := 0) rfl (by decide) (by decide) rfl (fun ls hl => ?_)
  refine lv_goto (tgt := 59) hx hb d_Shore_init_81 (by decide) ?_
  refine lv_iload_n hx hb d_Shore_init_59 rfl (lv_at hl 0 rfl) ?_
  refine lv_bipush (v := 10) hx hb d_Shore_init_60 (by decide) ?_
  refine lv_icmp_ge (tgt := 84) hx hb d_Shore_init_62 (by decide) (fun q => absurd q (by decide)) (fun _ => ?_)
  refine lv_aload_n hx hb d_Shore_init_65 rfl (lv_at hl 1 rfl) ?_
  refine g_get C h (k := 30) (q := 33) (by decide) g30_31 rfl (rfl : cls[1]? = some (R_Shore, T_Shore, 6)) in_Shore 2 (by decide) tw_135 rfl rfl g33_31 d_Shore_init_66 ?_
  refine lv_iload_n hx hb d_Shore_init_69 rfl (lv_at hl 0 rfl) ?_
  refine g_new C h (N := 6) (ci := 3) in_Thing ty_Thing tyok_Thing tw_92 tw_94 tw_66 rfl (fr_Thing rfl) df_Thing (Nat.le_of_ble_eq_true rfl) (Nat.le_of_ble_eq_true rfl) d_Shore_init_70 (fun q40 a32 H hq40 had h => ?_)
  have g30_32 : a32 30 = x := (had 30 (by decide)).trans g30_31
  have g31_32 : a32 31 = q31 := (had 31 (by decide)).trans g31_31
  have g33_32 : a32 33 = q33 := (had 33 (by decide)).trans g33_31
  replace hag := ag_trans hag had (by decide)
  refine lv_dup hx hb d_Shore_init_73 rfl ?_
  refine g_callN C h (kc_Thing (n := 41)) cw_Thing_init ini_Thing_init ins_Thing_init rfl tw_95 hd_Thing_init ⟨⟨rfl, rfl⟩, (Nat.le_of_ble_eq_true rfl), (Nat.le_of_ble_eq_true rfl)⟩ ⟨(Nat.le_of_ble_eq_true rfl), (Nat.le_of_ble_eq_true rfl)⟩ hl.1 (Nat.le_of_ble_eq_true rfl) d_Shore_init_74 (fun a33 H locs had h => ?_)
  have g30_33 : a33 30 = x := (had 30 (by decide)).trans g30_32
  have g31_33 : a33 31 = q31 := (had 31 (by decide)).trans g31_32
  have g33_33 : a33 33 = q33 := (had 33 (by decide)).trans g33_32
  have g40_33 : a33 40 = q40 := (had 40 (by decide)).trans hq40
  replace hag := ag_trans hag had (by decide)
  refine g_stR C h (k := 33) (q := 40) (N := 10) (t0 := 3) (r := (R_Thing, T_Thing, 6)) (by decide) (by decide) g33_33 g40_33 (cg_RT rfl) rfl rfl (rfl : cls[3]? = some (R_Thing, T_Thing, 6)) (i0 := 6) (by decide) (by decide) (by decide) d_Shore_init_77 (fun H locs h => ?_)
  refine lv_iinc (v := 7) (lv' := [(1, .int (7 : Int32)), (0, .ref x)]) hx hb d_Shore_init_78 hl (k := 0) rfl (by decide) (by decide) rfl (fun ls hl => ?_)
  refine lv_goto (tgt := 59) hx hb d_Shore_init_81 (by decide) ?_
  refine lv_iload_n hx hb d_Shore_init_59 rfl (lv_at hl 0 rfl) ?_
  refine lv_bipush (v := 10) hx hb d_Shore_init_60 (by decide) ?_
  refine lv_icmp_ge (tgt := 84) hx hb d_Shore_init_62 (by decide) (fun q => absurd q (by decide)) (fun _ => ?_)
  refine lv_aload_n hx hb d_Shore_init_65 rfl (lv_at hl 1 rfl) ?_
  refine g_get C h (k := 30) (q := 33) (by decide) g30_33 rfl (rfl : cls[1]? = some (R_Shore, T_Shore, 6)) in_Shore 2 (by decide) tw_135 rfl rfl g33_33 d_Shore_init_66 ?_
  refine lv_iload_n hx hb d_Shore_init_69 rfl (lv_at hl 0 rfl) ?_
  refine g_new C h (N := 6) (ci := 3) in_Thing ty_Thing tyok_Thing tw_92 tw_94 tw_66 rfl (fr_Thing rfl) df_Thing (Nat.le_of_ble_eq_true rfl) (Nat.le_of_ble_eq_true rfl) d_Shore_init_70 (fun q41 a34 H hq41 had h => ?_)
  have g30_34 : a34 30 = x := (had 30 (by decide)).trans g30_33
  have g31_34 : a34 31 = q31 := (had 31 (by decide)).trans g31_33
  have g33_34 : a34 33 = q33 := (had 33 (by decide)).trans g33_33
  replace hag := ag_trans hag had (by decide)
  refine lv_dup hx hb d_Shore_init_73 rfl ?_
  refine g_callN C h (kc_Thing (n := 42)) cw_Thing_init ini_Thing_init ins_Thing_init rfl tw_95 hd_Thing_init ⟨⟨rfl, rfl⟩, (Nat.le_of_ble_eq_true rfl), (Nat.le_of_ble_eq_true rfl)⟩ ⟨(Nat.le_of_ble_eq_true rfl), (Nat.le_of_ble_eq_true rfl)⟩ hl.1 (Nat.le_of_ble_eq_true rfl) d_Shore_init_74 (fun a35 H locs had h => ?_)
  have g30_35 : a35 30 = x := (had 30 (by decide)).trans g30_34
  have g31_35 : a35 31 = q31 := (had 31 (by decide)).trans g31_34
  have g33_35 : a35 33 = q33 := (had 33 (by decide)).trans g33_34
  have g41_35 : a35 41 = q41 := (had 41 (by decide)).trans hq41
  replace hag := ag_trans hag had (by decide)
  refine g_stR C h (k := 33) (q := 41) (N := 10) (t0 := 3) (r := (R_Thing, T_Thing, 6)) (by decide) (by decide) g33_35 g41_35 (cg_RT rfl) rfl rfl (rfl : cls[3]? = some (R_Thing, T_Thing, 6)) (i0 := 7) (by decide) (by decide) (by decide) d_Shore_init_77 (fun H locs h => ?_)
  refine lv_iinc (v := 8) (lv' := [(1, .int (8 : Int32)), (0, .ref x)]) hx hb d_Shore_init_78 hl (k := 0) rfl (by decide) (by decide) rfl (fun ls hl => ?_)
  refine lv_goto (tgt := 59) hx hb d_Shore_init_81 (by decide) ?_
  refine lv_iload_n hx hb d_Shore_init_59 rfl (lv_at hl 0 rfl) ?_
  refine lv_bipush (v := 10) hx hb d_Shore_init_60 (by decide) ?_
  refine lv_icmp_ge (tgt := 84) hx hb d_Shore_init_62 (by decide) (fun q => absurd q (by decide)) (fun _ => ?_)
  refine lv_aload_n hx hb d_Shore_init_65 rfl (lv_at hl 1 rfl) ?_
  refine g_get C h (k := 30) (q := 33) (by decide) g30_35 rfl (rfl : cls[1]? = some (R_Shore, T_Shore, 6)) in_Shore 2 (by decide) tw_135 rfl rfl g33_35 d_Shore_init_66 ?_
  refine lv_iload_n hx hb d_Shore_init_69 rfl (lv_at hl 0 rfl) ?_
  refine g_new C h (N := 6) (ci := 3) in_Thing ty_Thing tyok_Thing tw_92 tw_94 tw_66 rfl (fr_Thing rfl) df_Thing (Nat.le_of_ble_eq_true rfl) (Nat.le_of_ble_eq_true rfl) d_Shore_init_70 (fun q42 a36 H hq42 had h => ?_)
  have g30_36 : a36 30 = x := (had 30 (by decide)).trans g30_35
  have g31_36 : a36 31 = q31 := (had 31 (by decide)).trans g31_35
  have g33_36 : a36 33 = q33 := (had 33 (by decide)).trans g33_35
  replace hag := ag_trans hag had (by decide)
  refine lv_dup hx hb d_Shore_init_73 rfl ?_
  refine g_callN C h (kc_Thing (n := 43)) cw_Thing_init ini_Thing_init ins_Thing_init rfl tw_95 hd_Thing_init ⟨⟨rfl, rfl⟩, (Nat.le_of_ble_eq_true rfl), (Nat.le_of_ble_eq_true rfl)⟩ ⟨(Nat.le_of_ble_eq_true rfl), (Nat.le_of_ble_eq_true rfl)⟩ hl.1 (Nat.le_of_ble_eq_true rfl) d_Shore_init_74 (fun a37 H locs had h => ?_)
  have g30_37 : a37 30 = x := (had 30 (by decide)).trans g30_36
  have g31_37 : a37 31 = q31 := (had 31 (by decide)).trans g31_36
  have g33_37 : a37 33 = q33 := (had 33 (by decide)).trans g33_36
  have g42_37 : a37 42 = q42 := (had 42 (by decide)).trans hq42
  replace hag := ag_trans hag had (by decide)
  refine g_stR C h (k := 33) (q := 42) (N := 10) (t0 := 3) (r := (R_Thing, T_Thing, 6)) (by decide) (by decide) g33_37 g42_37 (cg_RT rfl) rfl rfl (rfl : cls[3]? = some (R_Thing, T_Thing, 6)) (i0 := 8) (by decide) (by decide) (by decide) d_Shore_init_77 (fun H locs h => ?_)
  refine lv_iinc (v := 9) (lv' := [(1, .int (9 : Int32)), (0, .ref x)]) hx hb d_Shore_init_78 hl (k := 0) rfl (by decide) (by decide) rfl (fun ls hl => ?_)
  refine lv_goto (tgt := 59) hx hb d_Shore_init_81 (by decide) ?_
  refine lv_iload_n hx hb d_Shore_init_59 rfl (lv_at hl 0 rfl) ?_
  refine lv_bipush (v := 10) hx hb d_Shore_init_60 (by decide) ?_
  refine lv_icmp_ge (tgt := 84) hx hb d_Shore_init_62 (by decide) (fun q => absurd q (by decide)) (fun _ => ?_)
  refine lv_aload_n hx hb d_Shore_init_65 rfl (lv_at hl 1 rfl) ?_
  refine g_get C h (k := 30) (q := 33) (by decide) g30_37 rfl (rfl : cls[1]? = some (R_Shore, T_Shore, 6)) in_Shore 2 (by decide) tw_135 rfl rfl g33_37 d_Shore_init_66 ?_
  refine lv_iload_n hx hb d_Shore_init_69 rfl (lv_at hl 0 rfl) ?_
  refine g_new C h (N := 6) (ci := 3) in_Thing ty_Thing tyok_Thing tw_92 tw_94 tw_66 rfl (fr_Thing rfl) df_Thing (Nat.le_of_ble_eq_true rfl) (Nat.le_of_ble_eq_true rfl) d_Shore_init_70 (fun q43 a38 H hq43 had h => ?_)
  have g30_38 : a38 30 = x := (had 30 (by decide)).trans g30_37
  have g31_38 : a38 31 = q31 := (had 31 (by decide)).trans g31_37
  have g33_38 : a38 33 = q33 := (had 33 (by decide)).trans g33_37
  replace hag := ag_trans hag had (by decide)
  refine lv_dup hx hb d_Shore_init_73 rfl ?_
  refine g_callN C h (kc_Thing (n := 44)) cw_Thing_init ini_Thing_init ins_Thing_init rfl tw_95 hd_Thing_init ⟨⟨rfl, rfl⟩, (Nat.le_of_ble_eq_true rfl), (Nat.le_of_ble_eq_true rfl)⟩ ⟨(Nat.le_of_ble_eq_true rfl), (Nat.le_of_ble_eq_true rfl)⟩ hl.1 (Nat.le_of_ble_eq_true rfl) d_Shore_init_74 (fun a39 H locs had h => ?_)
  have g30_39 : a39 30 = x := (had 30 (by decide)).trans g30_38
  have g31_39 : a39 31 = q31 := (had 31 (by decide)).trans g31_38
  have g33_39 : a39 33 = q33 := (had 33 (by decide)).trans g33_38
  have g43_39 : a39 43 = q43 := (had 43 (by decide)).trans hq43
  replace hag := ag_trans hag had (by decide)
  refine g_stR C h (k := 33) (q := 43) (N := 10) (t0 := 3) (r := (R_Thing, T_Thing, 6)) (by decide) (by decide) g33_39 g43_39 (cg_RT rfl) rfl rfl (rfl : cls[3]? = some (R_Thing, T_Thing, 6)) (i0 := 9) (by decide) (by decide) (by decide) d_Shore_init_77 (fun H locs h => ?_)
  refine lv_iinc (v := 10) (lv' := [(1, .int (10 : Int32)), (0, .ref x)]) hx hb d_Shore_init_78 hl (k := 0) rfl (by decide) (by decide) rfl (fun ls hl => ?_)
  refine lv_goto (tgt := 59) hx hb d_Shore_init_81 (by decide) ?_
  refine lv_iload_n hx hb d_Shore_init_59 rfl (lv_at hl 0 rfl) ?_
  refine lv_bipush (v := 10) hx hb d_Shore_init_60 (by decide) ?_
  refine lv_icmp_ge (tgt := 84) hx hb d_Shore_init_62 (by decide) (fun _ => ?_) (fun q => absurd (by decide) q)
  exact g_vret C h hag ⟨rfl, rfl, rfl⟩ d_Shore_init_84
def cF_Tide_0 (F : Fn) : Fn := (sF (sF (sF (sF (sF (sF (sF (sF (sF (sF (sF (cF_Sheet_58 (sF (cF_Sheet_56 (sF (cF_Sheet_54 (sF (cF_Sheet_52 (sF (sF (sF (sF (sF (sF (sF (cF_Tape_44 (sF (cF_Shore_30 (sF (cF_Shore_16 (sF (cF_Shore_2 (sF F 0 0 1)) 0 1 2)) 0 2 16)) 0 3 30)) 0 4 44) 0 5 46) 0 6 47) 0 7 48) 0 8 49) 0 9 50) 0 10 51)) 46 0 52)) 46 1 54)) 46 2 56)) 46 3 58) 47 0 60) 47 1 61) 47 2 62) 47 3 63) 47 4 64) 47 5 65) 47 6 66) 47 7 67) 47 8 68) 47 9 69)
def cX_Tide_0 (X : Mem) : Mem := (cX_Sheet_58 (cX_Sheet_56 (cX_Sheet_54 (cX_Sheet_52 (cX_Tape_44 (cX_Shore_30 (cX_Shore_16 (cX_Shore_2 X))))))))
set_option maxHeartbeats 4000000 in
set_option maxRecDepth 100000 in
theorem kc_Tide_0 {l : Launch} {E : En} {b : Nat} {a : Nat → Nat} {F : Fn} {X : Mem} {x : Nat} (hx0 : a 0 = x) : Met l y_Tide_init (Cond.code y_Tide_init c_Tide_init 2 none :: tb) ({ frames := 3, cells := 69, slots := 718, locals := 53 } : Room) (PreG E b [.ref x] 1 a F X) (PostG E b 1 a 70 (cF_Tide_0 F) (cX_Tide_0 X)) 69 718 (fun q => b ≤ q) := by
  refine met_ofG (by decide) rfl (Nat.le_of_ble_eq_true rfl) (fun p e s m below meth c C h ls hl => ?_)
  replace C : Cg p s m ([.ref x] : List Value).toArray meth c c_Tide_init 2 "TideLoans" E b := C
  replace hl : lv_has ls 2 [(0, .ref x)] := hl
  obtain ⟨hx, hb, hml, hown, hts, hrt, hlk, hKg, hnm⟩ := id C
  have hag : ∀ k, k < 1 → a k = a k := fun _ _ => rfl
  refine lv_aload_n hx hb d_Tide_init_0 rfl (lv_at hl 0 rfl) ?_
  refine g_oinit C hl.1 tw_83 oi_inst oi_code (Nat.le_of_ble_eq_true rfl) (Nat.le_of_ble_eq_true rfl) d_Tide_init_1 ?_
  refine lv_aload_n hx hb d_Tide_init_4 rfl (lv_at hl 0 rfl) ?_
  refine lv_bipush (v := 7) hx hb d_Tide_init_5 (by decide) ?_
  refine g_newP C h (atype := .int) (ty := .int) rfl (N := 7) (t0 := 0) (a0 := (7, .inl (fun _ => 0))) (fr_I (N := 7) rfl (by decide)) (fun _ => rfl) rfl (fun _ q => by cases q) (by decide) (by decide) tw_130 (Nat.le_of_ble_eq_true rfl) (Nat.le_of_ble_eq_true rfl) (Nat.le_of_ble_eq_true rfl) d_Tide_init_7 (fun q1 a1 H hq1 had h => ?_)
  have g0_1 : a1 0 = x := (had 0 (by decide)).trans hx0
  replace hag := ag_trans hag had (by decide)
  refine g_putR C h (k := 0) (q := 1) (by decide) (by decide) g0_1 hq1 rfl (rfl : cls[5]? = some (R_Tide, T_Tide, 12)) in_Tide ty_Tide tyok_Tide nm_Tide 0 (by decide) tw_236 rfl rfl rfl rfl (Nat.le_of_ble_eq_true rfl) rfl rfl d_Tide_init_9 (fun H locs h => ?_)
  refine lv_aload_n hx hb d_Tide_init_12 rfl (lv_at hl 0 rfl) ?_
  refine g_new C h (N := 6) (ci := 1) in_Shore ty_Shore tyok_Shore tw_86 tw_87 tw_65 rfl (fr_Shore rfl) df_Shore (Nat.le_of_ble_eq_true rfl) (Nat.le_of_ble_eq_true rfl) d_Tide_init_13 (fun q2 a2 H hq2 had h => ?_)
  have g0_2 : a2 0 = x := (had 0 (by decide)).trans g0_1
  replace hag := ag_trans hag had (by decide)
  refine lv_dup hx hb d_Tide_init_16 rfl ?_
  refine g_call C h (kc_Shore_2 hq2) cw_Shore_init ini_Shore_init ins_Shore_init rfl tw_88 hd_Shore_init ⟨⟨rfl, rfl⟩, (Nat.le_of_ble_eq_true rfl), (Nat.le_of_ble_eq_true rfl)⟩ ⟨(Nat.le_of_ble_eq_true rfl), (Nat.le_of_ble_eq_true rfl)⟩ hl.1 (Nat.le_of_ble_eq_true rfl) d_Tide_init_17 (fun a3 H locs had h => ?_)
  have g0_3 : a3 0 = x := (had 0 (by decide)).trans g0_2
  have g2_3 : a3 2 = q2 := (had 2 (by decide)).trans hq2
  replace hag := ag_trans hag had (by decide)
  refine g_putR C h (k := 0) (q := 2) (by decide) (by decide) g0_3 g2_3 rfl (rfl : cls[5]? = some (R_Tide, T_Tide, 12)) in_Tide ty_Tide tyok_Tide nm_Tide 1 (by decide) tw_237 rfl rfl rfl rfl (Nat.le_of_ble_eq_true rfl) rfl rfl d_Tide_init_20 (fun H locs h => ?_)
  refine lv_aload_n hx hb d_Tide_init_23 rfl (lv_at hl 0 rfl) ?_
  refine g_new C h (N := 6) (ci := 1) in_Shore ty_Shore tyok_Shore tw_86 tw_87 tw_65 rfl (fr_Shore rfl) df_Shore (Nat.le_of_ble_eq_true rfl) (Nat.le_of_ble_eq_true rfl) d_Tide_init_24 (fun q16 a4 H hq16 had h => ?_)
  have g0_4 : a4 0 = x := (had 0 (by decide)).trans g0_3
  replace hag := ag_trans hag had (by decide)
  refine lv_dup hx hb d_Tide_init_27 rfl ?_
  refine g_call C h (kc_Shore_16 hq16) cw_Shore_init ini_Shore_init ins_Shore_init rfl tw_88 hd_Shore_init ⟨⟨rfl, rfl⟩, (Nat.le_of_ble_eq_true rfl), (Nat.le_of_ble_eq_true rfl)⟩ ⟨(Nat.le_of_ble_eq_true rfl), (Nat.le_of_ble_eq_true rfl)⟩ hl.1 (Nat.le_of_ble_eq_true rfl) d_Tide_init_28 (fun a5 H locs had h => ?_)
  have g0_5 : a5 0 = x := (had 0 (by decide)).trans g0_4
  have g16_5 : a5 16 = q16 := (had 16 (by decide)).trans hq16
  replace hag := ag_trans hag had (by decide)
  refine g_putR C h (k := 0) (q := 16) (by decide) (by decide) g0_5 g16_5 rfl (rfl : cls[5]? = some (R_Tide, T_Tide, 12)) in_Tide ty_Tide tyok_Tide nm_Tide 2 (by decide) tw_238 rfl rfl rfl rfl (Nat.le_of_ble_eq_true rfl) rfl rfl d_Tide_init_31 (fun H locs h => ?_)
  refine lv_aload_n hx hb d_Tide_init_34 rfl (lv_at hl 0 rfl) ?_
  refine g_new C h (N := 6) (ci := 1) in_Shore ty_Shore tyok_Shore tw_86 tw_87 tw_65 rfl (fr_Shore rfl) df_Shore (Nat.le_of_ble_eq_true rfl) (Nat.le_of_ble_eq_true rfl) d_Tide_init_35 (fun q30 a6 H hq30 had h => ?_)
  have g0_6 : a6 0 = x := (had 0 (by decide)).trans g0_5
  replace hag := ag_trans hag had (by decide)
  refine lv_dup hx hb d_Tide_init_38 rfl ?_
  refine g_call C h (kc_Shore_30 hq30) cw_Shore_init ini_Shore_init ins_Shore_init rfl tw_88 hd_Shore_init ⟨⟨rfl, rfl⟩, (Nat.le_of_ble_eq_true rfl), (Nat.le_of_ble_eq_true rfl)⟩ ⟨(Nat.le_of_ble_eq_true rfl), (Nat.le_of_ble_eq_true rfl)⟩ hl.1 (Nat.le_of_ble_eq_true rfl) d_Tide_init_39 (fun a7 H locs had h => ?_)
  have g0_7 : a7 0 = x := (had 0 (by decide)).trans g0_6
  have g30_7 : a7 30 = q30 := (had 30 (by decide)).trans hq30
  replace hag := ag_trans hag had (by decide)
  refine g_putR C h (k := 0) (q := 30) (by decide) (by decide) g0_7 g30_7 rfl (rfl : cls[5]? = some (R_Tide, T_Tide, 12)) in_Tide ty_Tide tyok_Tide nm_Tide 3 (by decide) tw_239 rfl rfl rfl rfl (Nat.le_of_ble_eq_true rfl) rfl rfl d_Tide_init_42 (fun H locs h => ?_)
  refine lv_aload_n hx hb d_Tide_init_45 rfl (lv_at hl 0 rfl) ?_
  refine g_new C h (N := 6) (ci := 2) in_Tape ty_Tape tyok_Tape tw_156 tw_157 tw_67 rfl (fr_Tape rfl) df_Tape (Nat.le_of_ble_eq_true rfl) (Nat.le_of_ble_eq_true rfl) d_Tide_init_46 (fun q44 a8 H hq44 had h => ?_)
  have g0_8 : a8 0 = x := (had 0 (by decide)).trans g0_7
  replace hag := ag_trans hag had (by decide)
  refine lv_dup hx hb d_Tide_init_49 rfl ?_
  refine g_callN C h (kc_Tape_44 hq44) cw_Tape_init ini_Tape_init ins_Tape_init rfl tw_158 hd_Tape_init ⟨⟨rfl, rfl⟩, (Nat.le_of_ble_eq_true rfl), (Nat.le_of_ble_eq_true rfl)⟩ ⟨(Nat.le_of_ble_eq_true rfl), (Nat.le_of_ble_eq_true rfl)⟩ hl.1 (Nat.le_of_ble_eq_true rfl) d_Tide_init_50 (fun a9 H locs had h => ?_)
  have g0_9 : a9 0 = x := (had 0 (by decide)).trans g0_8
  have g44_9 : a9 44 = q44 := (had 44 (by decide)).trans hq44
  replace hag := ag_trans hag had (by decide)
  refine g_putR C h (k := 0) (q := 44) (by decide) (by decide) g0_9 g44_9 rfl (rfl : cls[5]? = some (R_Tide, T_Tide, 12)) in_Tide ty_Tide tyok_Tide nm_Tide 4 (by decide) tw_240 rfl rfl rfl rfl (Nat.le_of_ble_eq_true rfl) rfl rfl d_Tide_init_53 (fun H locs h => ?_)
  refine lv_aload_n hx hb d_Tide_init_56 rfl (lv_at hl 0 rfl) ?_
  refine lv_iconst (v := 4) hx hb d_Tide_init_57 (by decide) ?_
  refine g_newR C h (N := 4) (t0 := 4) (Cn := "TideLoans$Sheet") (fr_RS rfl) rfl (fun q => q.2.1) (by decide) (by decide) tw_186 (Nat.le_of_ble_eq_true rfl) (Nat.le_of_ble_eq_true rfl) d_Tide_init_58 (fun q46 a10 H hq46 had h => ?_)
  have g0_10 : a10 0 = x := (had 0 (by decide)).trans g0_9
  replace hag := ag_trans hag had (by decide)
  refine g_putR C h (k := 0) (q := 46) (by decide) (by decide) g0_10 hq46 rfl (rfl : cls[5]? = some (R_Tide, T_Tide, 12)) in_Tide ty_Tide tyok_Tide nm_Tide 5 (by decide) tw_241 rfl rfl rfl rfl (Nat.le_of_ble_eq_true rfl) rfl rfl d_Tide_init_61 (fun H locs h => ?_)
  refine lv_aload_n hx hb d_Tide_init_64 rfl (lv_at hl 0 rfl) ?_
  refine lv_bipush (v := 10) hx hb d_Tide_init_65 (by decide) ?_
  refine g_newR C h (N := 10) (t0 := 5) (Cn := "TideLoans$Way") (fr_RW rfl) rfl (fun q => q.2.2) (by decide) (by decide) tw_188 (Nat.le_of_ble_eq_true rfl) (Nat.le_of_ble_eq_true rfl) d_Tide_init_67 (fun q47 a11 H hq47 had h => ?_)
  have g0_11 : a11 0 = x := (had 0 (by decide)).trans g0_10
  have g46_11 : a11 46 = q46 := (had 46 (by decide)).trans hq46
  replace hag := ag_trans hag had (by decide)
  refine g_putR C h (k := 0) (q := 47) (by decide) (by decide) g0_11 hq47 rfl (rfl : cls[5]? = some (R_Tide, T_Tide, 12)) in_Tide ty_Tide tyok_Tide nm_Tide 6 (by decide) tw_242 rfl rfl rfl rfl (Nat.le_of_ble_eq_true rfl) rfl rfl d_Tide_init_70 (fun H locs h => ?_)
  refine lv_aload_n hx hb d_Tide_init_73 rfl (lv_at hl 0 rfl) ?_
  refine lv_bipush (v := 10) hx hb d_Tide_init_74 (by decide) ?_
  refine g_newP C h (atype := .int) (ty := .int) rfl (N := 10) (t0 := 0) (a0 := (10, .inl (fun _ => 0))) (fr_I (N := 10) rfl (by decide)) (fun _ => rfl) rfl (fun _ q => by cases q) (by decide) (by decide) tw_130 (Nat.le_of_ble_eq_true rfl) (Nat.le_of_ble_eq_true rfl) (Nat.le_of_ble_eq_true rfl) d_Tide_init_76 (fun q48 a12 H hq48 had h => ?_)
  have g0_12 : a12 0 = x := (had 0 (by decide)).trans g0_11
  have g46_12 : a12 46 = q46 := (had 46 (by decide)).trans g46_11
  have g47_12 : a12 47 = q47 := (had 47 (by decide)).trans hq47
  replace hag := ag_trans hag had (by decide)
  refine g_putR C h (k := 0) (q := 48) (by decide) (by decide) g0_12 hq48 rfl (rfl : cls[5]? = some (R_Tide, T_Tide, 12)) in_Tide ty_Tide tyok_Tide nm_Tide 7 (by decide) tw_243 rfl rfl rfl rfl (Nat.le_of_ble_eq_true rfl) rfl rfl d_Tide_init_78 (fun H locs h => ?_)
  refine lv_aload_n hx hb d_Tide_init_81 rfl (lv_at hl 0 rfl) ?_
  refine lv_bipush (v := 40) hx hb d_Tide_init_82 (by decide) ?_
  refine g_newP C h (atype := .int) (ty := .int) rfl (N := 40) (t0 := 0) (a0 := (40, .inl (fun _ => 0))) (fr_I (N := 40) rfl (by decide)) (fun _ => rfl) rfl (fun _ q => by cases q) (by decide) (by decide) tw_130 (Nat.le_of_ble_eq_true rfl) (Nat.le_of_ble_eq_true rfl) (Nat.le_of_ble_eq_true rfl) d_Tide_init_84 (fun q49 a13 H hq49 had h => ?_)
  have g0_13 : a13 0 = x := (had 0 (by decide)).trans g0_12
  have g46_13 : a13 46 = q46 := (had 46 (by decide)).trans g46_12
  have g47_13 : a13 47 = q47 := (had 47 (by decide)).trans g47_12
  replace hag := ag_trans hag had (by decide)
  refine g_putR C h (k := 0) (q := 49) (by decide) (by decide) g0_13 hq49 rfl (rfl : cls[5]? = some (R_Tide, T_Tide, 12)) in_Tide ty_Tide tyok_Tide nm_Tide 8 (by decide) tw_244 rfl rfl rfl rfl (Nat.le_of_ble_eq_true rfl) rfl rfl d_Tide_init_86 (fun H locs h => ?_)
  refine lv_aload_n hx hb d_Tide_init_89 rfl (lv_at hl 0 rfl) ?_
  refine g_new C h (N := 6) (ci := 3) in_Thing ty_Thing tyok_Thing tw_190 tw_94 tw_66 rfl (fr_Thing rfl) df_Thing (Nat.le_of_ble_eq_true rfl) (Nat.le_of_ble_eq_true rfl) d_Tide_init_90 (fun q50 a14 H hq50 had h => ?_)
  have g0_14 : a14 0 = x := (had 0 (by decide)).trans g0_13
  have g46_14 : a14 46 = q46 := (had 46 (by decide)).trans g46_13
  have g47_14 : a14 47 = q47 := (had 47 (by decide)).trans g47_13
  replace hag := ag_trans hag had (by decide)
  refine lv_dup hx hb d_Tide_init_93 rfl ?_
  refine g_callN C h (kc_Thing (n := 51)) cw_Thing_init ini_Thing_init ins_Thing_init rfl tw_191 hd_Thing_init ⟨⟨rfl, rfl⟩, (Nat.le_of_ble_eq_true rfl), (Nat.le_of_ble_eq_true rfl)⟩ ⟨(Nat.le_of_ble_eq_true rfl), (Nat.le_of_ble_eq_true rfl)⟩ hl.1 (Nat.le_of_ble_eq_true rfl) d_Tide_init_94 (fun a15 H locs had h => ?_)
  have g0_15 : a15 0 = x := (had 0 (by decide)).trans g0_14
  have g46_15 : a15 46 = q46 := (had 46 (by decide)).trans g46_14
  have g47_15 : a15 47 = q47 := (had 47 (by decide)).trans g47_14
  have g50_15 : a15 50 = q50 := (had 50 (by decide)).trans hq50
  replace hag := ag_trans hag had (by decide)
  refine g_putR C h (k := 0) (q := 50) (by decide) (by decide) g0_15 g50_15 rfl (rfl : cls[5]? = some (R_Tide, T_Tide, 12)) in_Tide ty_Tide tyok_Tide nm_Tide 9 (by decide) tw_245 rfl rfl rfl rfl (Nat.le_of_ble_eq_true rfl) rfl rfl d_Tide_init_97 (fun H locs h => ?_)
  refine lv_aload_n hx hb d_Tide_init_100 rfl (lv_at hl 0 rfl) ?_
  refine g_new C h (N := 5) (ci := 4) in_Way ty_Way tyok_Way tw_188 tw_192 tw_68 rfl (fr_Way rfl) df_Way (Nat.le_of_ble_eq_true rfl) (Nat.le_of_ble_eq_true rfl) d_Tide_init_101 (fun q51 a16 H hq51 had h => ?_)
  have g0_16 : a16 0 = x := (had 0 (by decide)).trans g0_15
  have g46_16 : a16 46 = q46 := (had 46 (by decide)).trans g46_15
  have g47_16 : a16 47 = q47 := (had 47 (by decide)).trans g47_15
  replace hag := ag_trans hag had (by decide)
  refine lv_dup hx hb d_Tide_init_104 rfl ?_
  refine g_callN C h (kc_Way (n := 52)) cw_Way_init ini_Way_init ins_Way_init rfl tw_193 hd_Way_init ⟨⟨rfl, rfl⟩, (Nat.le_of_ble_eq_true rfl), (Nat.le_of_ble_eq_true rfl)⟩ ⟨(Nat.le_of_ble_eq_true rfl), (Nat.le_of_ble_eq_true rfl)⟩ hl.1 (Nat.le_of_ble_eq_true rfl) d_Tide_init_105 (fun a17 H locs had h => ?_)
  have g0_17 : a17 0 = x := (had 0 (by decide)).trans g0_16
  have g46_17 : a17 46 = q46 := (had 46 (by decide)).trans g46_16
  have g47_17 : a17 47 = q47 := (had 47 (by decide)).trans g47_16
  have g51_17 : a17 51 = q51 := (had 51 (by decide)).trans hq51
  replace hag := ag_trans hag had (by decide)
  refine g_putR C h (k := 0) (q := 51) (by decide) (by decide) g0_17 g51_17 rfl (rfl : cls[5]? = some (R_Tide, T_Tide, 12)) in_Tide ty_Tide tyok_Tide nm_Tide 10 (by decide) tw_246 rfl rfl rfl rfl (Nat.le_of_ble_eq_true rfl) rfl rfl d_Tide_init_108 (fun H locs h => ?_)
  refine lv_iconst (v := 0) hx hb d_Tide_init_111 (by decide) ?_
  refine lv_istore_n (lv' := [(1, .int (0 : Int32)), (0, .ref x)]) hx hb d_Tide_init_112 rfl hl (by decide) rfl (fun ls hl => ?_)
  refine lv_iload_n hx hb d_Tide_init_113 rfl (lv_at hl 0 rfl) ?_
  refine lv_iconst (v := 4) hx hb d_Tide_init_114 (by decide) ?_
  refine lv_icmp_ge (tgt := 137) hx hb d_Tide_init_115 (by decide) (fun q => absurd q (by decide)) (fun _ => ?_)
  refine lv_aload_n hx hb d_Tide_init_118 rfl (lv_at hl 1 rfl) ?_
  refine g_get C h (k := 0) (q := 46) (by decide) g0_17 rfl (rfl : cls[5]? = some (R_Tide, T_Tide, 12)) in_Tide 5 (by decide) tw_241 rfl rfl g46_17 d_Tide_init_119 ?_
  refine lv_iload_n hx hb d_Tide_init_122 rfl (lv_at hl 0 rfl) ?_
  refine g_new C h (N := 3) (ci := 0) in_Sheet ty_Sheet tyok_Sheet tw_186 tw_217 tw_69 rfl (fr_Sheet rfl) df_Sheet (Nat.le_of_ble_eq_true rfl) (Nat.le_of_ble_eq_true rfl) d_Tide_init_123 (fun q52 a18 H hq52 had h => ?_)
  have g0_18 : a18 0 = x := (had 0 (by decide)).trans g0_17
  have g46_18 : a18 46 = q46 := (had 46 (by decide)).trans g46_17
  have g47_18 : a18 47 = q47 := (had 47 (by decide)).trans g47_17
  replace hag := ag_trans hag had (by decide)
  refine lv_dup hx hb d_Tide_init_126 rfl ?_
  refine g_callN C h (kc_Sheet_52 hq52) cw_Sheet_init ini_Sheet_init ins_Sheet_init rfl tw_218 hd_Sheet_init ⟨⟨rfl, rfl⟩, (Nat.le_of_ble_eq_true rfl), (Nat.le_of_ble_eq_true rfl)⟩ ⟨(Nat.le_of_ble_eq_true rfl), (Nat.le_of_ble_eq_true rfl)⟩ hl.1 (Nat.le_of_ble_eq_true rfl) d_Tide_init_127 (fun a19 H locs had h => ?_)
  have g0_19 : a19 0 = x := (had 0 (by decide)).trans g0_18
  have g46_19 : a19 46 = q46 := (had 46 (by decide)).trans g46_18
  have g47_19 : a19 47 = q47 := (had 47 (by decide)).trans g47_18
  have g52_19 : a19 52 = q52 := (had 52 (by decide)).trans hq52
  replace hag := ag_trans hag had (by decide)
  refine g_stR C h (k := 46) (q := 52) (N := 4) (t0 := 4) (r := (R_Sheet, T_Sheet, 3)) (by decide) (by decide) g46_19 g52_19 (cg_RS rfl) rfl rfl (rfl : cls[0]? = some (R_Sheet, T_Sheet, 3)) (i0 := 0) (by decide) (by decide) (by decide) d_Tide_init_130 (fun H locs h => ?_)
  refine lv_iinc (v := 1) (lv' := [(1, .int (1 : Int32)), (0, .ref x)]) hx hb d_Tide_init_131 hl (k := 0) rfl (by decide) (by decide) rfl (fun ls hl => ?_)
  refine lv_goto (tgt := 113) hx hb d_Tide_init_134 (by decide) ?_
  refine lv_iload_n hx hb d_Tide_init_113 rfl (lv_at hl 0 rfl) ?_
  refine lv_iconst (v := 4) hx hb d_Tide_init_114 (by decide) ?_
  refine lv_icmp_ge (tgt := 137) hx hb d_Tide_init_115 (by decide) (fun q => absurd q (by decide)) (fun _ => ?_)
  refine lv_aload_n hx hb d_Tide_init_118 rfl (lv_at hl 1 rfl) ?_
  refine g_get C h (k := 0) (q := 46) (by decide) g0_19 rfl (rfl : cls[5]? = some (R_Tide, T_Tide, 12)) in_Tide 5 (by decide) tw_241 rfl rfl g46_19 d_Tide_init_119 ?_
  refine lv_iload_n hx hb d_Tide_init_122 rfl (lv_at hl 0 rfl) ?_
  refine g_new C h (N := 3) (ci := 0) in_Sheet ty_Sheet tyok_Sheet tw_186 tw_217 tw_69 rfl (fr_Sheet rfl) df_Sheet (Nat.le_of_ble_eq_true rfl) (Nat.le_of_ble_eq_true rfl) d_Tide_init_123 (fun q54 a20 H hq54 had h => ?_)
  have g0_20 : a20 0 = x := (had 0 (by decide)).trans g0_19
  have g46_20 : a20 46 = q46 := (had 46 (by decide)).trans g46_19
  have g47_20 : a20 47 = q47 := (had 47 (by decide)).trans g47_19
  replace hag := ag_trans hag had (by decide)
  refine lv_dup hx hb d_Tide_init_126 rfl ?_
  refine g_callN C h (kc_Sheet_54 hq54) cw_Sheet_init ini_Sheet_init ins_Sheet_init rfl tw_218 hd_Sheet_init ⟨⟨rfl, rfl⟩, (Nat.le_of_ble_eq_true rfl), (Nat.le_of_ble_eq_true rfl)⟩ ⟨(Nat.le_of_ble_eq_true rfl), (Nat.le_of_ble_eq_true rfl)⟩ hl.1 (Nat.le_of_ble_eq_true rfl) d_Tide_init_127 (fun a21 H locs had h => ?_)
  have g0_21 : a21 0 = x := (had 0 (by decide)).trans g0_20
  have g46_21 : a21 46 = q46 := (had 46 (by decide)).trans g46_20
  have g47_21 : a21 47 = q47 := (had 47 (by decide)).trans g47_20
  have g54_21 : a21 54 = q54 := (had 54 (by decide)).trans hq54
  replace hag := ag_trans hag had (by decide)
  refine g_stR C h (k := 46) (q := 54) (N := 4) (t0 := 4) (r := (R_Sheet, T_Sheet, 3)) (by decide) (by decide) g46_21 g54_21 (cg_RS rfl) rfl rfl (rfl : cls[0]? = some (R_Sheet, T_Sheet, 3)) (i0 := 1) (by decide) (by decide) (by decide) d_Tide_init_130 (fun H locs h => ?_)
  refine lv_iinc (v := 2) (lv' := [(1, .int (2 : Int32)), (0, .ref x)]) hx hb d_Tide_init_131 hl (k := 0) rfl (by decide) (by decide) rfl (fun ls hl => ?_)
  refine lv_goto (tgt := 113) hx hb d_Tide_init_134 (by decide) ?_
  refine lv_iload_n hx hb d_Tide_init_113 rfl (lv_at hl 0 rfl) ?_
  refine lv_iconst (v := 4) hx hb d_Tide_init_114 (by decide) ?_
  refine lv_icmp_ge (tgt := 137) hx hb d_Tide_init_115 (by decide) (fun q => absurd q (by decide)) (fun _ => ?_)
  refine lv_aload_n hx hb d_Tide_init_118 rfl (lv_at hl 1 rfl) ?_
  refine g_get C h (k := 0) (q := 46) (by decide) g0_21 rfl (rfl : cls[5]? = some (R_Tide, T_Tide, 12)) in_Tide 5 (by decide) tw_241 rfl rfl g46_21 d_Tide_init_119 ?_
  refine lv_iload_n hx hb d_Tide_init_122 rfl (lv_at hl 0 rfl) ?_
  refine g_new C h (N := 3) (ci := 0) in_Sheet ty_Sheet tyok_Sheet tw_186 tw_217 tw_69 rfl (fr_Sheet rfl) df_Sheet (Nat.le_of_ble_eq_true rfl) (Nat.le_of_ble_eq_true rfl) d_Tide_init_123 (fun q56 a22 H hq56 had h => ?_)
  have g0_22 : a22 0 = x := (had 0 (by decide)).trans g0_21
  have g46_22 : a22 46 = q46 := (had 46 (by decide)).trans g46_21
  have g47_22 : a22 47 = q47 := (had 47 (by decide)).trans g47_21
  replace hag := ag_trans hag had (by decide)
  refine lv_dup hx hb d_Tide_init_126 rfl ?_
  refine g_callN C h (kc_Sheet_56 hq56) cw_Sheet_init ini_Sheet_init ins_Sheet_init rfl tw_218 hd_Sheet_init ⟨⟨rfl, rfl⟩, (Nat.le_of_ble_eq_true rfl), (Nat.le_of_ble_eq_true rfl)⟩ ⟨(Nat.le_of_ble_eq_true rfl), (Nat.le_of_ble_eq_true rfl)⟩ hl.1 (Nat.le_of_ble_eq_true rfl) d_Tide_init_127 (fun a23 H locs had h => ?_)
  have g0_23 : a23 0 = x := (had 0 (by decide)).trans g0_22
  have g46_23 : a23 46 = q46 := (had 46 (by decide)).trans g46_22
  have g47_23 : a23 47 = q47 := (had 47 (by decide)).trans g47_22
  have g56_23 : a23 56 = q56 := (had 56 (by decide)).trans hq56
  replace hag := ag_trans hag had (by decide)
  refine g_stR C h (k := 46) (q := 56) (N := 4) (t0 := 4) (r := (R_Sheet, T_Sheet, 3)) (by decide) (by decide) g46_23 g56_23 (cg_RS rfl) rfl rfl (rfl : cls[0]? = some (R_Sheet, T_Sheet, 3)) (i0 := 2) (by decide) (by decide) (by decide) d_Tide_init_130 (fun H locs h => ?_)
  refine lv_iinc (v := 3) (lv' := [(1, .int (3 : Int32)), (0, .ref x)]) hx hb d_Tide_init_131 hl (k := 0) rfl (by decide) (by decide) rfl (fun ls hl => ?_)
  refine lv_goto (tgt := 113) hx hb d_Tide_init_134 (by decide) ?_
  refine lv_iload_n hx hb d_Tide_init_113 rfl (lv_at hl 0 rfl) ?_
  refine lv_iconst (v := 4) hx hb d_Tide_init_114 (by decide) ?_
  refine lv_icmp_ge (tgt := 137) hx hb d_Tide_init_115 (by decide) (fun q => absurd q (by decide)) (fun _ => ?_)
  refine lv_aload_n hx hb d_Tide_init_118 rfl (lv_at hl 1 rfl) ?_
  refine g_get C h (k := 0) (q := 46) (by decide) g0_23 rfl (rfl : cls[5]? = some (R_Tide, T_Tide, 12)) in_Tide 5 (by decide) tw_241 rfl rfl g46_23 d_Tide_init_119 ?_
  refine lv_iload_n hx hb d_Tide_init_122 rfl (lv_at hl 0 rfl) ?_
  refine g_new C h (N := 3) (ci := 0) in_Sheet ty_Sheet tyok_Sheet tw_186 tw_217 tw_69 rfl (fr_Sheet rfl) df_Sheet (Nat.le_of_ble_eq_true rfl) (Nat.le_of_ble_eq_true rfl) d_Tide_init_123 (fun q58 a24 H hq58 had h => ?_)
  have g0_24 : a24 0 = x := (had 0 (by decide)).trans g0_23
  have g46_24 : a24 46 = q46 := (had 46 (by decide)).trans g46_23
  have g47_24 : a24 47 = q47 := (had 47 (by decide)).trans g47_23
  replace hag := ag_trans hag had (by decide)
  refine lv_dup hx hb d_Tide_init_126 rfl ?_
  refine g_callN C h (kc_Sheet_58 hq58) cw_Sheet_init ini_Sheet_init ins_Sheet_init rfl tw_218 hd_Sheet_init ⟨⟨rfl, rfl⟩, (Nat.le_of_ble_eq_true rfl), (Nat.le_of_ble_eq_true rfl)⟩ ⟨(Nat.le_of_ble_eq_true rfl), (Nat.le_of_ble_eq_true rfl)⟩ hl.1 (Nat.le_of_ble_eq_true rfl) d_Tide_init_127 (fun a25 H locs had h => ?_)
  have g0_25 : a25 0 = x := (had 0 (by decide)).trans g0_24
  have g46_25 : a25 46 = q46 := (had 46 (by decide)).trans g46_24
  have g47_25 : a25 47 = q47 := (had 47 (by decide)).trans g47_24
  have g58_25 : a25 58 = q58 := (had 58 (by decide)).trans hq58
  replace hag := ag_trans hag had (by decide)
  refine g_stR C h (k := 46) (q := 58) (N := 4) (t0 := 4) (r := (R_Sheet, T_Sheet, 3)) (by decide) (by decide) g46_25 g58_25 (cg_RS rfl) rfl rfl (rfl : cls[0]? = some (R_Sheet, T_Sheet, 3)) (i0 := 3) (by decide) (by decide) (by decide) d_Tide_init_130 (fun H locs h => ?_)
  refine lv_iinc (v := 4) (lv' := [(1, .int (4 : Int32)), (0, .ref x)]) hx hb d_Tide_init_131 hl (k := 0) rfl (by decide) (by decide) rfl (fun ls hl => ?_)
  refine lv_goto (tgt := 113) hx hb d_Tide_init_134 (by decide) ?_
  refine lv_iload_n hx hb d_Tide_init_113 rfl (lv_at hl 0 rfl) ?_
  refine lv_iconst (v := 4) hx hb d_Tide_init_114 (by decide) ?_
  refine lv_icmp_ge (tgt := 137) hx hb d_Tide_init_115 (by decide) (fun _ => ?_) (fun q => absurd (by decide) q)
  refine lv_iconst (v := 0) hx hb d_Tide_init_137 (by decide) ?_
  refine lv_istore_n (lv' := [(1, .int (0 : Int32)), (0, .ref x)]) hx hb d_Tide_init_138 rfl hl (by decide) rfl (fun ls hl => ?_)
  refine lv_iload_n hx hb d_Tide_init_139 rfl (lv_at hl 0 rfl) ?_
  refine lv_bipush (v := 10) hx hb d_Tide_init_140 (by decide) ?_
  refine lv_icmp_ge (tgt := 164) hx hb d_Tide_init_142 (by decide) (fun q => absurd q (by decide)) (fun _ => ?_)
  refine lv_aload_n hx hb d_Tide_init_145 rfl (lv_at hl 1 rfl) ?_
  refine g_get C h (k := 0) (q := 47) (by decide) g0_25 rfl (rfl : cls[5]? = some (R_Tide, T_Tide, 12)) in_Tide 6 (by decide) tw_242 rfl rfl g47_25 d_Tide_init_146 ?_
  refine lv_iload_n hx hb d_Tide_init_149 rfl (lv_at hl 0 rfl) ?_
  refine g_new C h (N := 5) (ci := 4) in_Way ty_Way tyok_Way tw_188 tw_192 tw_68 rfl (fr_Way rfl) df_Way (Nat.le_of_ble_eq_true rfl) (Nat.le_of_ble_eq_true rfl) d_Tide_init_150 (fun q60 a26 H hq60 had h => ?_)
  have g0_26 : a26 0 = x := (had 0 (by decide)).trans g0_25
  have g46_26 : a26 46 = q46 := (had 46 (by decide)).trans g46_25
  have g47_26 : a26 47 = q47 := (had 47 (by decide)).trans g47_25
  replace hag := ag_trans hag had (by decide)
  refine lv_dup hx hb d_Tide_init_153 rfl ?_
  refine g_callN C h (kc_Way (n := 61)) cw_Way_init ini_Way_init ins_Way_init rfl tw_193 hd_Way_init ⟨⟨rfl, rfl⟩, (Nat.le_of_ble_eq_true rfl), (Nat.le_of_ble_eq_true rfl)⟩ ⟨(Nat.le_of_ble_eq_true rfl), (Nat.le_of_ble_eq_true rfl)⟩ hl.1 (Nat.le_of_ble_eq_true rfl) d_Tide_init_154 (fun a27 H locs had h => ?_)
  have g0_27 : a27 0 = x := (had 0 (by decide)).trans g0_26
  have g46_27 : a27 46 = q46 := (had 46 (by decide)).trans g46_26
  have g47_27 : a27 47 = q47 := (had 47 (by decide)).trans g47_26
  have g60_27 : a27 60 = q60 := (had 60 (by decide)).trans hq60
  replace hag := ag_trans hag had (by decide)
  refine g_stR C h (k := 47) (q := 60) (N := 10) (t0 := 5) (r := (R_Way, T_Way, 5)) (by decide) (by decide) g47_27 g60_27 (cg_RW rfl) rfl rfl (rfl : cls[4]? = some (R_Way, T_Way, 5)) (i0 := 0) (by decide) (by decide) (by decide) d_Tide_init_157 (fun H locs h => ?_)
  refine lv_iinc (v := 1) (lv' := [(1, .int (1 : Int32)), (0, .ref x)]) hx hb d_Tide_init_158 hl (k := 0) rfl (by decide) (by decide) rfl (fun ls hl => ?_)
  refine lv_goto (tgt := 139) hx hb d_Tide_init_161 (by decide) ?_
  refine lv_iload_n hx hb d_Tide_init_139 rfl (lv_at hl 0 rfl) ?_
  refine lv_bipush (v := 10) hx hb d_Tide_init_140 (by decide) ?_
  refine lv_icmp_ge (tgt := 164) hx hb d_Tide_init_142 (by decide) (fun q => absurd q (by decide)) (fun _ => ?_)
  refine lv_aload_n hx hb d_Tide_init_145 rfl (lv_at hl 1 rfl) ?_
  refine g_get C h (k := 0) (q := 47) (by decide) g0_27 rfl (rfl : cls[5]? = some (R_Tide, T_Tide, 12)) in_Tide 6 (by decide) tw_242 rfl rfl g47_27 d_Tide_init_146 ?_
  refine lv_iload_n hx hb d_Tide_init_149 rfl (lv_at hl 0 rfl) ?_
  refine g_new C h (N := 5) (ci := 4) in_Way ty_Way tyok_Way tw_188 tw_192 tw_68 rfl (fr_Way rfl) df_Way (Nat.le_of_ble_eq_true rfl) (Nat.le_of_ble_eq_true rfl) d_Tide_init_150 (fun q61 a28 H hq61 had h => ?_)
  have g0_28 : a28 0 = x := (had 0 (by decide)).trans g0_27
  have g46_28 : a28 46 = q46 := (had 46 (by decide)).trans g46_27
  have g47_28 : a28 47 = q47 := (had 47 (by decide)).trans g47_27
  replace hag := ag_trans hag had (by decide)
  refine lv_dup hx hb d_Tide_init_153 rfl ?_
  refine g_callN C h (kc_Way (n := 62)) cw_Way_init ini_Way_init ins_Way_init rfl tw_193 hd_Way_init ⟨⟨rfl, rfl⟩, (Nat.le_of_ble_eq_true rfl), (Nat.le_of_ble_eq_true rfl)⟩ ⟨(Nat.le_of_ble_eq_true rfl), (Nat.le_of_ble_eq_true rfl)⟩ hl.1 (Nat.le_of_ble_eq_true rfl) d_Tide_init_154 (fun a29 H locs had h => ?_)
  have g0_29 : a29 0 = x := (had 0 (by decide)).trans g0_28
  have g46_29 : a29 46 = q46 := (had 46 (by decide)).trans g46_28
  have g47_29 : a29 47 = q47 := (had 47 (by decide)).trans g47_28
  have g61_29 : a29 61 = q61 := (had 61 (by decide)).trans hq61
  replace hag := ag_trans hag had (by decide)
  refine g_stR C h (k := 47) (q := 61) (N := 10) (t0 := 5) (r := (R_Way, T_Way, 5)) (by decide) (by decide) g47_29 g61_29 (cg_RW rfl) rfl rfl (rfl : cls[4]? = some (R_Way, T_Way, 5)) (i0 := 1) (by decide) (by decide) (by decide) d_Tide_init_157 (fun H locs h => ?_)
  refine lv_iinc (v := 2) (lv' := [(1, .int (2 : Int32)), (0, .ref x)]) hx hb d_Tide_init_158 hl (k := 0) rfl (by decide) (by decide) rfl (fun ls hl => ?_)
  refine lv_goto (tgt := 139) hx hb d_Tide_init_161 (by decide) ?_
  refine lv_iload_n hx hb d_Tide_init_139 rfl (lv_at hl 0 rfl) ?_
  refine lv_bipush (v := 10) hx hb d_Tide_init_140 (by decide) ?_
  refine lv_icmp_ge (tgt := 164) hx hb d_Tide_init_142 (by decide) (fun q => absurd q (by decide)) (fun _ => ?_)
  refine lv_aload_n hx hb d_Tide_init_145 rfl (lv_at hl 1 rfl) ?_
  refine g_get C h (k := 0) (q := 47) (by decide) g0_29 rfl (rfl : cls[5]? = some (R_Tide, T_Tide, 12)) in_Tide 6 (by decide) tw_242 rfl rfl g47_29 d_Tide_init_146 ?_
  refine lv_iload_n hx hb d_Tide_init_149 rfl (lv_at hl 0 rfl) ?_
  refine g_new C h (N := 5) (ci := 4) in_Way ty_Way tyok_Way tw_188 tw_192 tw_68 rfl (fr_Way rfl) df_Way (Nat.le_of_ble_eq_true rfl) (Nat.le_of_ble_eq_true rfl) d_Tide_init_150 (fun q62 a30 H hq62 had h => ?_)
  have g0_30 : a30 0 = x := (had 0 (by decide)).trans g0_29
  have g46_30 : a30 46 = q46 := (had 46 (by decide)).trans g46_29
  have g47_30 : a30 47 = q47 := (had 47 (by decide)).trans g47_29
  replace hag := ag_trans hag had (by decide)
  refine lv_dup hx hb d_Tide_init_153 rfl ?_
  refine g_callN C h (kc_Way (n := 63)) cw_Way_init ini_Way_init ins_Way_init rfl tw_193 hd_Way_init ⟨⟨rfl, rfl⟩, (Nat.le_of_ble_eq_true rfl), (Nat.le_of_ble_eq_true rfl)⟩ ⟨(Nat.le_of_ble_eq_true rfl), (Nat.le_of_ble_eq_true rfl)⟩ hl.1 (Nat.le_of_ble_eq_true rfl) d_Tide_init_154 (fun a31 H locs had h => ?_)
  have g0_31 : a31 0 = x := (had 0 (by decide)).trans g0_30
  have g46_31 : a31 46 = q46 := (had 46 (by decide)).trans g46_30
  have g47_31 : a31 47 = q47 := (had 47 (by decide)).trans g47_30
  have g62_31 : a31 62 = q62 := (had 62 (by decide)).trans hq62
  replace hag := ag_trans hag had (by decide)
  refine g_stR C h (k := 47) (q := 62) (N := 10) (t0 := 5) (r := (R_Way, T_Way, 5)) (by decide) (by decide) g47_31 g62_31 (cg_RW rfl) rfl rfl (rfl : cls[4]? = some (R_Way, T_Way, 5)) (i0 := 2) (by decide) (by decide) (by decide) d_Tide_init_157 (fun H locs h => ?_)
  refine lv_iinc (v := 3) (lv' := [(1, .int (3 : Int32)), (0, .ref x)]) hx hb d_Tide_init_158 hl (k := 0) rfl (by decide) (by decide) rfl (fun ls hl => ?_)
  refine lv_goto (tgt := 139) hx hb d_Tide_init_161 (by decide) ?_
  refine lv_iload_n hx hb d_Tide_init_139 rfl (lv_at hl 0 rfl) ?_
  refine lv_bipush (v := 10) hx hb d_Tide_init_140 (by decide) ?_
  refine lv_icmp_ge (tgt := 164) hx hb d_Tide_init_142 (by decide) (fun q => absurd q (by decide)) (fun _ => ?_)
  refine lv_aload_n hx hb d_Tide_init_145 rfl (lv_at hl 1 rfl) ?_
  refine g_get C h (k := 0) (q := 47) (by decide) g0_31 rfl (rfl : cls[5]? = some (R_Tide, T_Tide, 12)) in_Tide 6 (by decide) tw_242 rfl rfl g47_31 d_Tide_init_146 ?_
  refine lv_iload_n hx hb d_Tide_init_149 rfl (lv_at hl 0 rfl) ?_
  refine g_new C h (N := 5) (ci := 4) in_Way ty_Way tyok_Way tw_188 tw_192 tw_68 rfl (fr_Way rfl) df_Way (Nat.le_of_ble_eq_true rfl) (Nat.le_of_ble_eq_true rfl) d_Tide_init_150 (fun q63 a32 H hq63 had h => ?_)
  have g0_32 : a32 0 = x := (had 0 (by decide)).trans g0_31
  have g46_32 : a32 46 = q46 := (had 46 (by decide)).trans g46_31
  have g47_32 : a32 47 = q47 := (had 47 (by decide)).trans g47_31
  replace hag := ag_trans hag had (by decide)
  refine lv_dup hx hb d_Tide_init_153 rfl ?_
  refine g_callN C h (kc_Way (n := 64)) cw_Way_init ini_Way_init ins_Way_init rfl tw_193 hd_Way_init ⟨⟨rfl, rfl⟩, (Nat.le_of_ble_eq_true rfl), (Nat.le_of_ble_eq_true rfl)⟩ ⟨(Nat.le_of_ble_eq_true rfl), (Nat.le_of_ble_eq_true rfl)⟩ hl.1 (Nat.le_of_ble_eq_true rfl) d_Tide_init_154 (fun a33 H locs had h => ?_)
  have g0_33 : a33 0 = x := (had 0 (by decide)).trans g0_32
  have g46_33 : a33 46 = q46 := (had 46 (by decide)).trans g46_32
  have g47_33 : a33 47 = q47 := (had 47 (by decide)).trans g47_32
  have g63_33 : a33 63 = q63 := (had 63 (by decide)).trans hq63
  replace hag := ag_trans hag had (by decide)
  refine g_stR C h (k := 47) (q := 63) (N := 10) (t0 := 5) (r := (R_Way, T_Way, 5)) (by decide) (by decide) g47_33 g63_33 (cg_RW rfl) rfl rfl (rfl : cls[4]? = some (R_Way, T_Way, 5)) (i0 := 3) (by decide) (by decide) (by decide) d_Tide_init_157 (fun H locs h => ?_)
  refine lv_iinc (v := 4) (lv' := [(1, .int (4 : Int32)), (0, .ref x)]) hx hb d_Tide_init_158 hl (k := 0) rfl (by decide) (by decide) rfl (fun ls hl => ?_)
  refine lv_goto (tgt := 139) hx hb d_Tide_init_161 (by decide) ?_
  refine lv_iload_n hx hb d_Tide_init_139 rfl (lv_at hl 0 rfl) ?_
  refine lv_bipush (v := 10) hx hb d_Tide_init_140 (by decide) ?_
  refine lv_icmp_ge (tgt := 164) hx hb d_Tide_init_142 (by decide) (fun q => absurd q (by decide)) (fun _ => ?_)
  refine lv_aload_n hx hb d_Tide_init_145 rfl (lv_at hl 1 rfl) ?_
  refine g_get C h (k := 0) (q := 47) (by decide) g0_33 rfl (rfl : cls[5]? = some (R_Tide, T_Tide, 12)) in_Tide 6 (by decide) tw_242 rfl rfl g47_33 d_Tide_init_146 ?_
  refine lv_iload_n hx hb d_Tide_init_149 rfl (lv_at hl 0 rfl) ?_
  refine g_new C h (N := 5) (ci := 4) in_Way ty_Way tyok_Way tw_188 tw_192 tw_68 rfl (fr_Way rfl) df_Way (Nat.le_of_ble_eq_true rfl) (Nat.le_of_ble_eq_true rfl) d_Tide_init_150 (fun q64 a34 H hq64 had h => ?_)
  have g0_34 : a34 0 = x := (had 0 (by decide)).trans g0_33
  have g46_34 : a34 46 = q46 := (had 46 (by decide)).trans g46_33
  have g47_34 : a34 47 = q47 := (had 47 (by decide)).trans g47_33
  replace hag := ag_trans hag had (by decide)
  refine lv_dup hx hb d_Tide_init_153 rfl ?_
  refine g_callN C h (kc_Way (n := 65)) cw_Way_init ini_Way_init ins_Way_init rfl tw_193 hd_Way_init ⟨⟨rfl, rfl⟩, (Nat.le_of_ble_eq_true rfl), (Nat.le_of_ble_eq_true rfl)⟩ ⟨(Nat.le_of_ble_eq_true rfl), (Nat.le_of_ble_eq_true rfl)⟩ hl.1 (Nat.le_of_ble_eq_true rfl) d_Tide_init_154 (fun a35 H locs had h => ?_)
  have g0_35 : a35 0 = x := (had 0 (by decide)).trans g0_34
  have g46_35 : a35 46 = q46 := (had 46 (by decide)).trans g46_34
  have g47_35 : a35 47 = q47 := (had 47 (by decide)).trans g47_34
  have g64_35 : a35 64 = q64 := (had 64 (by decide)).trans hq64
  replace hag := ag_trans hag had (by decide)
  refine g_stR C h (k := 47) (q := 64) (N := 10) (t0 := 5) (r := (R_Way, T_Way, 5)) (by decide) (by decide) g47_35 g64_35 (cg_RW rfl) rfl rfl (rfl : cls[4]? = some (R_Way, T_Way, 5)) (i0 := 4) (by decide) (by decide) (by decide) d_Tide_init_157 (fun H locs h => ?_)
  refine lv_iinc (v := 5) (lv' := [(1, .int (5 : Int32)), (0, .ref x)]) hx hb d_Tide_init_158 hl (k := 0) rfl (by decide) (by decide) rfl (fun ls hl => ?_)
  refine lv_goto (tgt := 139) hx hb d_Tide_init_161 (by decide) ?_
  refine lv_iload_n hx hb d_Tide_init_139 rfl (lv_at hl 0 rfl) ?_
  refine lv_bipush (v := 10) hx hb d_Tide_init_140 (by decide) ?_
  refine lv_icmp_ge (tgt := 164) hx hb d_Tide_init_142 (by decide) (fun q => absurd q (by decide)) (fun _ => ?_)
  refine lv_aload_n hx hb d_Tide_init_145 rfl (lv_at hl 1 rfl) ?_
  refine g_get C h (k := 0) (q := 47) (by decide) g0_35 rfl (rfl : cls[5]? = some (R_Tide, T_Tide, 12)) in_Tide 6 (by decide) tw_242 rfl rfl g47_35 d_Tide_init_146 ?_
  refine lv_iload_n hx hb d_Tide_init_149 rfl (lv_at hl 0 rfl) ?_
  refine g_new C h (N := 5) (ci := 4) in_Way ty_Way tyok_Way tw_188 tw_192 tw_68 rfl (fr_Way rfl) df_Way (Nat.le_of_ble_eq_true rfl) (Nat.le_of_ble_eq_true rfl) d_Tide_init_150 (fun q65 a36 H hq65 had h => ?_)
  have g0_36 : a36 0 = x := (had 0 (by decide)).trans g0_35
  have g46_36 : a36 46 = q46 := (had 46 (by decide)).trans g46_35
  have g47_36 : a36 47 = q47 := (had 47 (by decide)).trans g47_35
  replace hag := ag_trans hag had (by decide)
  refine lv_dup hx hb d_Tide_init_153 rfl ?_
  refine g_callN C h (kc_Way (n := 66)) cw_Way_init ini_Way_init ins_Way_init rfl tw_193 hd_Way_init ⟨⟨rfl, rfl⟩, (Nat.le_of_ble_eq_true rfl), (Nat.le_of_ble_eq_true rfl)⟩ ⟨(Nat.le_of_ble_eq_true rfl), (Nat.le_of_ble_eq_true rfl)⟩ hl.1 (Nat.le_of_ble_eq_true rfl) d_Tide_init_154 (fun a37 H locs had h => ?_)
  have g0_37 : a37 0 = x := (had 0 (by decide)).trans g0_36
  have g46_37 : a37 46 = q46 := (had 46 (by decide)).trans g46_36
  have g47_37 : a37 47 = q47 := (had 47 (by decide)).trans g47_36
  have g65_37 : a37 65 = q65 := (had 65 (by decide)).trans hq65
  replace hag := ag_trans hag had (by decide)
  refine g_stR C h (k := 47) (q := 65) (N := 10) (t0 := 5) (r := (R_Way, T_Way, 5)) (by decide) (by decide) g47_37 g65_37 (cg_RW rfl) rfl rfl (rfl : cls[4]? = some (R_Way, T_Way, 5)) (i0 := 5) (by decide) (by decide) (by decide) d_Tide_init_157 (fun H locs h => ?_)
  refine lv_iinc (v := 6) (lv' := [(1, .int (6 : Int32)), (0, .ref x)]) hx hb d_Tide_init_158 hl (k := 0) rfl (by decide) (by decide) rfl (fun ls hl => ?_)
  refine lv_goto (tgt := 139) hx hb d_Tide_init_161 (by decide) ?_
  refine lv_iload_n hx hb d_Tide_init_139 rfl (lv_at hl 0 rfl) ?_
  refine lv_bipush (v := 10) hx hb d_Tide_init_140 (by decide) ?_
  refine lv_icmp_ge (tgt := 164) hx hb d_Tide_init_142 (by decide) (fun q => absurd q (by decide)) (fun _ => ?_)
  refine lv_aload_n hx hb d_Tide_init_145 rfl (lv_at hl 1 rfl) ?_
  refine g_get C h (k := 0) (q := 47) (by decide) g0_37 rfl (rfl : cls[5]? = some (R_Tide, T_Tide, 12)) in_Tide 6 (by decide) tw_242 rfl rfl g47_37 d_Tide_init_146 ?_
  refine lv_iload_n hx hb d_Tide_init_149 rfl (lv_at hl 0 rfl) ?_
  refine g_new C h (N := 5) (ci := 4) in_Way ty_Way tyok_Way tw_188 tw_192 tw_68 rfl (fr_Way rfl) df_Way (Nat.le_of_ble_eq_true rfl) (Nat.le_of_ble_eq_true rfl) d_Tide_init_150 (fun q66 a38 H hq66 had h => ?_)
  have g0_38 : a38 0 = x := (had 0 (by decide)).trans g0_37
  have g46_38 : a38 46 = q46 := (had 46 (by decide)).trans g46_37
  have g47_38 : a38 47 = q47 := (had 47 (by decide)).trans g47_37
  replace hag := ag_trans hag had (by decide)
  refine lv_dup hx hb d_Tide_init_153 rfl ?_
  refine g_callN C h (kc_Way (n := 67)) cw_Way_init ini_Way_init ins_Way_init rfl tw_193 hd_Way_init ⟨⟨rfl, rfl⟩, (Nat.le_of_ble_eq_true rfl), (Nat.le_of_ble_eq_true rfl)⟩ ⟨(Nat.le_of_ble_eq_true rfl), (Nat.le_of_ble_eq_true rfl)⟩ hl.1 (Nat.le_of_ble_eq_true rfl) d_Tide_init_154 (fun a39 H locs had h => ?_)
  have g0_39 : a39 0 = x := (had 0 (by decide)).trans g0_38
  have g46_39 : a39 46 = q46 := (had 46 (by decide)).trans g46_38
  have g47_39 : a39 47 = q47 := (had 47 (by decide)).trans g47_38
  have g66_39 : a39 66 = q66 := (had 66 (by decide)).trans hq66
  replace hag := ag_trans hag had (by decide)
  refine g_stR C h (k := 47) (q := 66) (N := 10) (t0 := 5) (r := (R_Way, T_Way, 5)) (by decide) (by decide) g47_39 g66_39 (cg_RW rfl) rfl rfl (rfl : cls[4]? = some (R_Way, T_Way, 5)) (i0 := 6) (by decide) (by decide) (by decide) d_Tide_init_157 (fun H locs h => ?_)
  refine lv_iinc (v := 7) (lv' := [(1, .int (7 : Int32)), (0, .ref x)]) hx hb d_Tide_init_158 hl (k := 0) rfl (by decide) (by decide) rfl (fun ls hl => ?_)
  refine lv_goto (tgt := 139) hx hb d_Tide_init_161 (by decide) ?_
  refine lv_iload_n hx hb d_Tide_init_139 rfl (lv_at hl 0 rfl) ?_
  refine lv_bipush (v := 10) hx hb d_Tide_init_140 (by decide) ?_
  refine lv_icmp_ge (tgt := 164) hx hb d_Tide_init_142 (by decide) (fun q => absurd q (by decide)) (fun _ => ?_)
  refine lv_aload_n hx hb d_Tide_init_145 rfl (lv_at hl 1 rfl) ?_
  refine g_get C h (k := 0) (q := 47) (by decide) g0_39 rfl (rfl : cls[5]? = some (R_Tide, T_Tide, 12)) in_Tide 6 (by decide) tw_242 rfl rfl g47_39 d_Tide_init_146 ?_
  refine lv_iload_n hx hb d_Tide_init_149 rfl (lv_at hl 0 rfl) ?_
  refine g_new C h (N := 5) (ci := 4) in_Way ty_Way tyok_Way tw_188 tw_192 tw_68 rfl (fr_Way rfl) df_Way (Nat.le_of_ble_eq_true rfl) (Nat.le_of_ble_eq_true rfl) d_Tide_init_150 (fun q67 a40 H hq67 had h => ?_)
  have g0_40 : a40 0 = x := (had 0 (by decide)).trans g0_39
  have g46_40 : a40 46 = q46 := (had 46 (by decide)).trans g46_39
  have g47_40 : a40 47 = q47 := (had 47 (by decide)).trans g47_39
  replace hag := ag_trans hag had (by decide)
  refine lv_dup hx hb d_Tide_init_153 rfl ?_
  refine g_callN C h (kc_Way (n := 68)) cw_Way_init ini_Way_init ins_Way_init rfl tw_193 hd_Way_init ⟨⟨rfl, rfl⟩, (Nat.le_of_ble_eq_true rfl), (Nat.le_of_ble_eq_true rfl)⟩ ⟨(Nat.le_of_ble_eq_true rfl), (Nat.le_of_ble_eq_true rfl)⟩ hl.1 (Nat.le_of_ble_eq_true rfl) d_Tide_init_154 (fun a41 H locs had h => ?_)
  have g0_41 : a41 0 = x := (had 0 (by decide)).trans g0_40
  have g46_41 : a41 46 = q46 := (had 46 (by decide)).trans g46_40
  have g47_41 : a41 47 = q47 := (had 47 (by decide)).trans g47_40
  have g67_41 : a41 67 = q67 := (had 67 (by decide)).trans hq67
  replace hag := ag_trans hag had (by decide)
  refine g_stR C h (k := 47) (q := 67) (N := 10) (t0 := 5) (r := (R_Way, T_Way, 5)) (by decide) (by decide) g47_41 g67_41 (cg_RW rfl) rfl rfl (rfl : cls[4]? = some (R_Way, T_Way, 5)) (i0 := 7) (by decide) (by decide) (by decide) d_Tide_init_157 (fun H locs h => ?_)
  refine lv_iinc (v := 8) (lv' := [(1, .int (8 : Int32)), (0, .ref x)]) hx hb d_Tide_init_158 hl (k := 0) rfl (by decide) (by decide) rfl (fun ls hl => ?_)
  refine lv_goto (tgt := 139) hx hb d_Tide_init_161 (by decide) ?_
  refine lv_iload_n hx hb d_Tide_init_139 rfl (lv_at hl 0 rfl) ?_
  refine lv_bipush (v := 10) hx hb d_Tide_init_140 (by decide) ?_
  refine lv_icmp_ge (tgt := 164) hx hb d_Tide_init_142 (by decide) (fun q => absurd q (by decide)) (fun _ => ?_)
  refine lv_aload_n hx hb d_Tide_init_145 rfl (lv_at hl 1 rfl) ?_
  refine g_get C h (k := 0) (q := 47) (by decide) g0_41 rfl (rfl : cls[5]? = some (R_Tide, T_Tide, 12)) in_Tide 6 (by decide) tw_242 rfl rfl g47_41 d_Tide_init_146 ?_
  refine lv_iload_n hx hb d_Tide_init_149 rfl (lv_at hl 0 rfl) ?_
  refine g_new C h (N := 5) (ci := 4) in_Way ty_Way tyok_Way tw_188 tw_192 tw_68 rfl (fr_Way rfl) df_Way (Nat.le_of_ble_eq_true rfl) (Nat.le_of_ble_eq_true rfl) d_Tide_init_150 (fun q68 a42 H hq68 had h => ?_)
  have g0_42 : a42 0 = x := (had 0 (by decide)).trans g0_41
  have g46_42 : a42 46 = q46 := (had 46 (by decide)).trans g46_41
  have g47_42 : a42 47 = q47 := (had 47 (by decide)).trans g47_41
  replace hag := ag_trans hag had (by decide)
  refine lv_dup hx hb d_Tide_init_153 rfl ?_
  refine g_callN C h (kc_Way (n := 69)) cw_Way_init ini_Way_init ins_Way_init rfl tw_193 hd_Way_init ⟨⟨rfl, rfl⟩, (Nat.le_of_ble_eq_true rfl), (Nat.le_of_ble_eq_true rfl)⟩ ⟨(Nat.le_of_ble_eq_true rfl), (Nat.le_of_ble_eq_true rfl)⟩ hl.1 (Nat.le_of_ble_eq_true rfl) d_Tide_init_154 (fun a43 H locs had h => ?_)
  have g0_43 : a43 0 = x := (had 0 (by decide)).trans g0_42
  have g46_43 : a43 46 = q46 := (had 46 (by decide)).trans g46_42
  have g47_43 : a43 47 = q47 := (had 47 (by decide)).trans g47_42
  have g68_43 : a43 68 = q68 := (had 68 (by decide)).trans hq68
  replace hag := ag_trans hag had (by decide)
  refine g_stR C h (k := 47) (q := 68) (N := 10) (t0 := 5) (r := (R_Way, T_Way, 5)) (by decide) (by decide) g47_43 g68_43 (cg_RW rfl) rfl rfl (rfl : cls[4]? = some (R_Way, T_Way, 5)) (i0 := 8) (by decide) (by decide) (by decide) d_Tide_init_157 (fun H locs h => ?_)
  refine lv_iinc (v := 9) (lv' := [(1, .int (9 : Int32)), (0, .ref x)]) hx hb d_Tide_init_158 hl (k := 0) rfl (by decide) (by decide) rfl (fun ls hl => ?_)
  refine lv_goto (tgt := 139) hx hb d_Tide_init_161 (by decide) ?_
  refine lv_iload_n hx hb d_Tide_init_139 rfl (lv_at hl 0 rfl) ?_
  refine lv_bipush (v := 10) hx hb d_Tide_init_140 (by decide) ?_
  refine lv_icmp_ge (tgt := 164) hx hb d_Tide_init_142 (by decide) (fun q => absurd q (by decide)) (fun _ => ?_)
  refine lv_aload_n hx hb d_Tide_init_145 rfl (lv_at hl 1 rfl) ?_
  refine g_get C h (k := 0) (q := 47) (by decide) g0_43 rfl (rfl : cls[5]? = some (R_Tide, T_Tide, 12)) in_Tide 6 (by decide) tw_242 rfl rfl g47_43 d_Tide_init_146 ?_
  refine lv_iload_n hx hb d_Tide_init_149 rfl (lv_at hl 0 rfl) ?_
  refine g_new C h (N := 5) (ci := 4) in_Way ty_Way tyok_Way tw_188 tw_192 tw_68 rfl (fr_Way rfl) df_Way (Nat.le_of_ble_eq_true rfl) (Nat.le_of_ble_eq_true rfl) d_Tide_init_150 (fun q69 a44 H hq69 had h => ?_)
  have g0_44 : a44 0 = x := (had 0 (by decide)).trans g0_43
  have g46_44 : a44 46 = q46 := (had 46 (by decide)).trans g46_43
  have g47_44 : a44 47 = q47 := (had 47 (by decide)).trans g47_43
  replace hag := ag_trans hag had (by decide)
  refine lv_dup hx hb d_Tide_init_153 rfl ?_
  refine g_callN C h (kc_Way (n := 70)) cw_Way_init ini_Way_init ins_Way_init rfl tw_193 hd_Way_init ⟨⟨rfl, rfl⟩, (Nat.le_of_ble_eq_true rfl), (Nat.le_of_ble_eq_true rfl)⟩ ⟨(Nat.le_of_ble_eq_true rfl), (Nat.le_of_ble_eq_true rfl)⟩ hl.1 (Nat.le_of_ble_eq_true rfl) d_Tide_init_154 (fun a45 H locs had h => ?_)
  have g0_45 : a45 0 = x := (had 0 (by decide)).trans g0_44
  have g46_45 : a45 46 = q46 := (had 46 (by decide)).trans g46_44
  have g47_45 : a45 47 = q47 := (had 47 (by decide)).trans g47_44
  have g69_45 : a45 69 = q69 := (had 69 (by decide)).trans hq69
  replace hag := ag_trans hag had (by decide)
  refine g_stR C h (k := 47) (q := 69) (N := 10) (t0 := 5) (r := (R_Way, T_Way, 5)) (by decide) (by decide) g47_45 g69_45 (cg_RW rfl) rfl rfl (rfl : cls[4]? = some (R_Way, T_Way, 5)) (i0 := 9) (by decide) (by decide) (by decide) d_Tide_init_157 (fun H locs h => ?_)
  refine lv_iinc (v := 10) (lv' := [(1, .int (10 : Int32)), (0, .ref x)]) hx hb d_Tide_init_158 hl (k := 0) rfl (by decide) (by decide) rfl (fun ls hl => ?_)
  refine lv_goto (tgt := 139) hx hb d_Tide_init_161 (by decide) ?_
  refine lv_iload_n hx hb d_Tide_init_139 rfl (lv_at hl 0 rfl) ?_
  refine lv_bipush (v := 10) hx hb d_Tide_init_140 (by decide) ?_
  refine lv_icmp_ge (tgt := 164) hx hb d_Tide_init_142 (by decide) (fun _ => ?_) (fun q => absurd (by decide) q)
  exact g_vret C h hag ⟨rfl, rfl, rfl⟩ d_Tide_init_164
def cF_Model_70 (F : Fn) : Fn := (sF (sF (sF (sF (sF (sF (sF (sF (sF F 70 0 71) 70 1 72) 70 2 73) 70 3 74) 70 5 75) 70 6 76) 70 8 77) 70 9 78) 70 10 79)
def cX_Model_70 (X : Mem) : Mem := (sI (sI (sI (sI (sI (sI (sI (sI (sI (sI (sI (sI (sI (sI (sI (sI (sI (sI (sI (sI (sI X 77 0 (-1 : Int32)) 77 1 (-1 : Int32)) 77 2 (-1 : Int32)) 77 3 (-1 : Int32)) 71 2 (2 : Int32)) 71 3 (0 : Int32)) 71 4 (1 : Int32)) 71 5 (2 : Int32)) 71 6 (3 : Int32)) 71 7 (4 : Int32)) 71 8 (5 : Int32)) 71 9 (6 : Int32)) 71 10 (7 : Int32)) 71 11 (8 : Int32)) 71 12 (9 : Int32)) 71 13 (0 : Int32)) 71 14 (1 : Int32)) 71 15 (2 : Int32)) 71 16 (3 : Int32)) 71 17 (4 : Int32)) 71 18 (5 : Int32))
set_option maxHeartbeats 4000000 in
set_option maxRecDepth 100000 in
theorem kc_Model_70 {l : Launch} {E : En} {b : Nat} {a : Nat → Nat} {F : Fn} {X : Mem} {x : Nat} (hx0 : a 70 = x) : Met l y_Model_init (Cond.code y_Model_init c_Model_init 2 none :: tb) ({ frames := 1, cells := 9, slots := 628, locals := 12 } : Room) (PreG E b [.ref x] 71 a F X) (PostG E b 71 a 80 (cF_Model_70 F) (cX_Model_70 X)) 9 628 (fun q => b ≤ q) := by
  refine met_ofG (by decide) rfl (Nat.le_of_ble_eq_true rfl) (fun p e s m below meth c C h ls hl => ?_)
  replace C : Cg p s m ([.ref x] : List Value).toArray meth c c_Model_init 2 "TideLoansModel" E b := C
  replace hl : lv_has ls 2 [(0, .ref x)] := hl
  obtain ⟨hx, hb, hml, hown, hts, hrt, hlk, hKg, hnm⟩ := id C
  have hag : ∀ k, k < 71 → a k = a k := fun _ _ => rfl
  refine lv_aload_n hx hb d_Model_init_0 rfl (lv_at hl 0 rfl) ?_
  refine g_oinit C hl.1 tw_793 oi_inst oi_code (Nat.le_of_ble_eq_true rfl) (Nat.le_of_ble_eq_true rfl) d_Model_init_1 ?_
  refine lv_aload_n hx hb d_Model_init_4 rfl (lv_at hl 0 rfl) ?_
  refine lv_bipush (v := 83) hx hb d_Model_init_5 (by decide) ?_
  refine g_newP C h (atype := .int) (ty := .int) rfl (N := 83) (t0 := 0) (a0 := (83, .inl (fun _ => 0))) (fr_I (N := 83) rfl (by decide)) (fun _ => rfl) rfl (fun _ q => by cases q) (by decide) (by decide) tw_130 (Nat.le_of_ble_eq_true rfl) (Nat.le_of_ble_eq_true rfl) (Nat.le_of_ble_eq_true rfl) d_Model_init_7 (fun q71 a1 H hq71 had h => ?_)
  have g70_1 : a1 70 = x := (had 70 (by decide)).trans hx0
  replace hag := ag_trans hag had (by decide)
  refine g_putR C h (k := 70) (q := 71) (by decide) (by decide) g70_1 hq71 rfl (rfl : cls[6]? = some (R_Model, T_Model, 16)) in_Model ty_Model tyok_Model nm_Model 0 (by decide) tw_794 rfl rfl rfl rfl (Nat.le_of_ble_eq_true rfl) rfl rfl d_Model_init_9 (fun H locs h => ?_)
  refine lv_aload_n hx hb d_Model_init_12 rfl (lv_at hl 0 rfl) ?_
  refine lv_bipush (v := 83) hx hb d_Model_init_13 (by decide) ?_
  refine g_newP C h (atype := .int) (ty := .int) rfl (N := 83) (t0 := 0) (a0 := (83, .inl (fun _ => 0))) (fr_I (N := 83) rfl (by decide)) (fun _ => rfl) rfl (fun _ q => by cases q) (by decide) (by decide) tw_130 (Nat.le_of_ble_eq_true rfl) (Nat.le_of_ble_eq_true rfl) (Nat.le_of_ble_eq_true rfl) d_Model_init_15 (fun q72 a2 H hq72 had h => ?_)
  have g70_2 : a2 70 = x := (had 70 (by decide)).trans g70_1
  have g71_2 : a2 71 = q71 := (had 71 (by decide)).trans hq71
  replace hag := ag_trans hag had (by decide)
  refine g_putR C h (k := 70) (q := 72) (by decide) (by decide) g70_2 hq72 rfl (rfl : cls[6]? = some (R_Model, T_Model, 16)) in_Model ty_Model tyok_Model nm_Model 1 (by decide) tw_795 rfl rfl rfl rfl (Nat.le_of_ble_eq_true rfl) rfl rfl d_Model_init_17 (fun H locs h => ?_)
  refine lv_aload_n hx hb d_Model_init_20 rfl (lv_at hl 0 rfl) ?_
  refine lv_bipush (v := 83) hx hb d_Model_init_21 (by decide) ?_
  refine g_newP C h (atype := .int) (ty := .int) rfl (N := 83) (t0 := 0) (a0 := (83, .inl (fun _ => 0))) (fr_I (N := 83) rfl (by decide)) (fun _ => rfl) rfl (fun _ q => by cases q) (by decide) (by decide) tw_130 (Nat.le_of_ble_eq_true rfl) (Nat.le_of_ble_eq_true rfl) (Nat.le_of_ble_eq_true rfl) d_Model_init_23 (fun q73 a3 H hq73 had h => ?_)
  have g70_3 : a3 70 = x := (had 70 (by decide)).trans g70_2
  have g71_3 : a3 71 = q71 := (had 71 (by decide)).trans g71_2
  replace hag := ag_trans hag had (by decide)
  refine g_putR C h (k := 70) (q := 73) (by decide) (by decide) g70_3 hq73 rfl (rfl : cls[6]? = some (R_Model, T_Model, 16)) in_Model ty_Model tyok_Model nm_Model 2 (by decide) tw_796 rfl rfl rfl rfl (Nat.le_of_ble_eq_true rfl) rfl rfl d_Model_init_25 (fun H locs h => ?_)
  refine lv_aload_n hx hb d_Model_init_28 rfl (lv_at hl 0 rfl) ?_
  refine lv_bipush (v := 83) hx hb d_Model_init_29 (by decide) ?_
  refine g_newP C h (atype := .int) (ty := .int) rfl (N := 83) (t0 := 0) (a0 := (83, .inl (fun _ => 0))) (fr_I (N := 83) rfl (by decide)) (fun _ => rfl) rfl (fun _ q => by cases q) (by decide) (by decide) tw_130 (Nat.le_of_ble_eq_true rfl) (Nat.le_of_ble_eq_true rfl) (Nat.le_of_ble_eq_true rfl) d_Model_init_31 (fun q74 a4 H hq74 had h => ?_)
  have g70_4 : a4 70 = x := (had 70 (by decide)).trans g70_3
  have g71_4 : a4 71 = q71 := (had 71 (by decide)).trans g71_3
  replace hag := ag_trans hag had (by decide)
  refine g_putR C h (k := 70) (q := 74) (by decide) (by decide) g70_4 hq74 rfl (rfl : cls[6]? = some (R_Model, T_Model, 16)) in_Model ty_Model tyok_Model nm_Model 3 (by decide) tw_797 rfl rfl rfl rfl (Nat.le_of_ble_eq_true rfl) rfl rfl d_Model_init_33 (fun H locs h => ?_)
  refine lv_aload_n hx hb d_Model_init_36 rfl (lv_at hl 0 rfl) ?_
  refine lv_bipush (v := 8) hx hb d_Model_init_37 (by decide) ?_
  refine g_newP C h (atype := .int) (ty := .int) rfl (N := 8) (t0 := 0) (a0 := (8, .inl (fun _ => 0))) (fr_I (N := 8) rfl (by decide)) (fun _ => rfl) rfl (fun _ q => by cases q) (by decide) (by decide) tw_130 (Nat.le_of_ble_eq_true rfl) (Nat.le_of_ble_eq_true rfl) (Nat.le_of_ble_eq_true rfl) d_Model_init_39 (fun q75 a5 H hq75 had h => ?_)
  have g70_5 : a5 70 = x := (had 70 (by decide)).trans g70_4
  have g71_5 : a5 71 = q71 := (had 71 (by decide)).trans g71_4
  replace hag := ag_trans hag had (by decide)
  refine g_putR C h (k := 70) (q := 75) (by decide) (by decide) g70_5 hq75 rfl (rfl : cls[6]? = some (R_Model, T_Model, 16)) in_Model ty_Model tyok_Model nm_Model 5 (by decide) tw_799 rfl rfl rfl rfl (Nat.le_of_ble_eq_true rfl) rfl rfl d_Model_init_41 (fun H locs h => ?_)
  refine lv_aload_n hx hb d_Model_init_44 rfl (lv_at hl 0 rfl) ?_
  refine lv_bipush (v := 120) hx hb d_Model_init_45 (by decide) ?_
  refine g_newP C h (atype := .int) (ty := .int) rfl (N := 120) (t0 := 0) (a0 := (120, .inl (fun _ => 0))) (fr_I (N := 120) rfl (by decide)) (fun _ => rfl) rfl (fun _ q => by cases q) (by decide) (by decide) tw_130 (Nat.le_of_ble_eq_true rfl) (Nat.le_of_ble_eq_true rfl) (Nat.le_of_ble_eq_true rfl) d_Model_init_47 (fun q76 a6 H hq76 had h => ?_)
  have g70_6 : a6 70 = x := (had 70 (by decide)).trans g70_5
  have g71_6 : a6 71 = q71 := (had 71 (by decide)).trans g71_5
  replace hag := ag_trans hag had (by decide)
  refine g_putR C h (k := 70) (q := 76) (by decide) (by decide) g70_6 hq76 rfl (rfl : cls[6]? = some (R_Model, T_Model, 16)) in_Model ty_Model tyok_Model nm_Model 6 (by decide) tw_800 rfl rfl rfl rfl (Nat.le_of_ble_eq_true rfl) rfl rfl d_Model_init_49 (fun H locs h => ?_)
  refine lv_aload_n hx hb d_Model_init_52 rfl (lv_at hl 0 rfl) ?_
  refine lv_iconst (v := 4) hx hb d_Model_init_53 (by decide) ?_
  refine g_newP C h (atype := .int) (ty := .int) rfl (N := 4) (t0 := 0) (a0 := (4, .inl (fun _ => 0))) (fr_I (N := 4) rfl (by decide)) (fun _ => rfl) rfl (fun _ q => by cases q) (by decide) (by decide) tw_130 (Nat.le_of_ble_eq_true rfl) (Nat.le_of_ble_eq_true rfl) (Nat.le_of_ble_eq_true rfl) d_Model_init_54 (fun q77 a7 H hq77 had h => ?_)
  have g70_7 : a7 70 = x := (had 70 (by decide)).trans g70_6
  have g71_7 : a7 71 = q71 := (had 71 (by decide)).trans g71_6
  replace hag := ag_trans hag had (by decide)
  refine lv_dup hx hb d_Model_init_56 rfl ?_
  refine lv_iconst (v := 0) hx hb d_Model_init_57 (by decide) ?_
  refine lv_iconst (v := -1) hx hb d_Model_init_58 (by decide) ?_
  refine g_stI C h (k := 77) (N := 4) (by decide) hq77 rfl (by decide) (i0 := 0) (by decide) (by decide) d_Model_init_59 (fun H locs h => ?_)
  refine lv_dup hx hb d_Model_init_60 rfl ?_
  refine lv_iconst (v := 1) hx hb d_Model_init_61 (by decide) ?_
  refine lv_iconst (v := -1) hx hb d_Model_init_62 (by decide) ?_
  refine g_stI C h (k := 77) (N := 4) (by decide) hq77 rfl (by decide) (i0 := 1) (by decide) (by decide) d_Model_init_63 (fun H locs h => ?_)
  refine lv_dup hx hb d_Model_init_64 rfl ?_
  refine lv_iconst (v := 2) hx hb d_Model_init_65 (by decide) ?_
  refine lv_iconst (v := -1) hx hb d_Model_init_66 (by decide) ?_
  refine g_stI C h (k := 77) (N := 4) (by decide) hq77 rfl (by decide) (i0 := 2) (by decide) (by decide) d_Model_init_67 (fun H locs h => ?_)
  refine lv_dup hx hb d_Model_init_68 rfl ?_
  refine lv_iconst (v := 3) hx hb d_Model_init_69 (by decide) ?_
  refine lv_iconst (v := -1) hx hb d_Model_init_70 (by decide) ?_
  refine g_stI C h (k := 77) (N := 4) (by decide) hq77 rfl (by decide) (i0 := 3) (by decide) (by decide) d_Model_init_71 (fun H locs h => ?_)
  refine g_putR C h (k := 70) (q := 77) (by decide) (by decide) g70_7 hq77 rfl (rfl : cls[6]? = some (R_Model, T_Model, 16)) in_Model ty_Model tyok_Model nm_Model 8 (by decide) tw_802 rfl rfl rfl rfl (Nat.le_of_ble_eq_true rfl) rfl rfl d_Model_init_72 (fun H locs h => ?_)
  refine lv_aload_n hx hb d_Model_init_75 rfl (lv_at hl 0 rfl) ?_
  refine lv_iconst (v := 4) hx hb d_Model_init_76 (by decide) ?_
  refine g_newP C h (atype := .int) (ty := .int) rfl (N := 4) (t0 := 0) (a0 := (4, .inl (fun _ => 0))) (fr_I (N := 4) rfl (by decide)) (fun _ => rfl) rfl (fun _ q => by cases q) (by decide) (by decide) tw_130 (Nat.le_of_ble_eq_true rfl) (Nat.le_of_ble_eq_true rfl) (Nat.le_of_ble_eq_true rfl) d_Model_init_77 (fun q78 a8 H hq78 had h => ?_)
  have g70_8 : a8 70 = x := (had 70 (by decide)).trans g70_7
  have g71_8 : a8 71 = q71 := (had 71 (by decide)).trans g71_7
  replace hag := ag_trans hag had (by decide)
  refine g_putR C h (k := 70) (q := 78) (by decide) (by decide) g70_8 hq78 rfl (rfl : cls[6]? = some (R_Model, T_Model, 16)) in_Model ty_Model tyok_Model nm_Model 9 (by decide) tw_803 rfl rfl rfl rfl (Nat.le_of_ble_eq_true rfl) rfl rfl d_Model_init_79 (fun H locs h => ?_)
  refine lv_aload_n hx hb d_Model_init_82 rfl (lv_at hl 0 rfl) ?_
  refine lv_sipush (v := 160) hx hb d_Model_init_83 (by decide) ?_
  refine g_newP C h (atype := .long) (ty := .long) rfl (N := 160) (t0 := 2) (a0 := (160, .inr (.inl (fun _ => 0)))) (fr_L (N := 160) rfl (by decide)) (fun _ => rfl) rfl (fun _ q => by cases q) (by decide) (by decide) tw_235 (Nat.le_of_ble_eq_true rfl) (Nat.le_of_ble_eq_true rfl) (Nat.le_of_ble_eq_true rfl) d_Model_init_86 (fun q79 a9 H hq79 had h => ?_)
  have g70_9 : a9 70 = x := (had 70 (by decide)).trans g70_8
  have g71_9 : a9 71 = q71 := (had 71 (by decide)).trans g71_8
  replace hag := ag_trans hag had (by decide)
  refine g_putR C h (k := 70) (q := 79) (by decide) (by decide) g70_9 hq79 rfl (rfl : cls[6]? = some (R_Model, T_Model, 16)) in_Model ty_Model tyok_Model nm_Model 10 (by decide) tw_804 rfl rfl rfl rfl (Nat.le_of_ble_eq_true rfl) rfl rfl d_Model_init_88 (fun H locs h => ?_)
  refine lv_aload_n hx hb d_Model_init_91 rfl (lv_at hl 0 rfl) ?_
  refine g_get C h (k := 70) (q := 71) (by decide) g70_9 rfl (rfl : cls[6]? = some (R_Model, T_Model, 16)) in_Model 0 (by decide) tw_794 rfl rfl g71_9 d_Model_init_92 ?_
  refine lv_iconst (v := 2) hx hb d_Model_init_95 (by decide) ?_
  refine lv_iconst (v := 2) hx hb d_Model_init_96 (by decide) ?_
  refine g_stI C h (k := 71) (N := 83) (by decide) g71_9 rfl (by decide) (i0 := 2) (by decide) (by decide) d_Model_init_97 (fun H locs h => ?_)
  refine lv_iconst (v := 0) hx hb d_Model_init_98 (by decide) ?_
  refine lv_istore_n (lv' := [(1, .int (0 : Int32)), (0, .ref x)]) hx hb d_Model_init_99 rfl hl (by decide) rfl (fun ls hl => ?_)
  refine lv_iload_n hx hb d_Model_init_100 rfl (lv_at hl 0 rfl) ?_
  refine lv_bipush (v := 16) hx hb d_Model_init_101 (by decide) ?_
  refine lv_icmp_ge (tgt := 124) hx hb d_Model_init_103 (by decide) (fun q => absurd q (by decide)) (fun _ => ?_)
  refine lv_aload_n hx hb d_Model_init_106 rfl (lv_at hl 1 rfl) ?_
  refine g_get C h (k := 70) (q := 71) (by decide) g70_9 rfl (rfl : cls[6]? = some (R_Model, T_Model, 16)) in_Model 0 (by decide) tw_794 rfl rfl g71_9 d_Model_init_107 ?_
  refine lv_iconst (v := 3) hx hb d_Model_init_110 (by decide) ?_
  refine lv_iload_n hx hb d_Model_init_111 rfl (lv_at hl 0 rfl) ?_
  refine lv_iadd hx hb d_Model_init_112 ?_
  refine lv_topi (fun z10 hz10 => ?_)
  replace hz10 : z10 = 3 := hz10.trans (by decide)
  subst hz10
  refine lv_iload_n hx hb d_Model_init_113 rfl (lv_at hl 0 rfl) ?_
  refine lv_bipush (v := 10) hx hb d_Model_init_114 (by decide) ?_
  refine lv_irem hx hb d_Model_init_116 (by decide) ?_
  refine lv_topi (fun z11 hz11 => ?_)
  replace hz11 : z11 = 0 := hz11.trans (by decide)
  subst hz11
  refine g_stI C h (k := 71) (N := 83) (by decide) g71_9 rfl (by decide) (i0 := 3) (by decide) (by decide) d_Model_init_117 (fun H locs h => ?_)
  refine lv_iinc (v := 1) (lv' := [(1, .int (1 : Int32)), (0, .ref x)]) hx hb d_Model_init_118 hl (k := 0) rfl (by decide) (by decide) rfl (fun ls hl => ?_)
  refine lv_goto (tgt := 100) hx hb d_Model_init_121 (by decide) ?_
  refine lv_iload_n hx hb d_Model_init_100 rfl (lv_at hl 0 rfl) ?_
  refine lv_bipush (v := 16) hx hb d_Model_init_101 (by decide) ?_
  refine lv_icmp_ge (tgt := 124) hx hb d_Model_init_103 (by decide) (fun q => absurd q (by decide)) (fun _ => ?_)
  refine lv_aload_n hx hb d_Model_init_106 rfl (lv_at hl 1 rfl) ?_
  refine g_get C h (k := 70) (q := 71) (by decide) g70_9 rfl (rfl : cls[6]? = some (R_Model, T_Model, 16)) in_Model 0 (by decide) tw_794 rfl rfl g71_9 d_Model_init_107 ?_
  refine lv_iconst (v := 3) hx hb d_Model_init_110 (by decide) ?_
  refine lv_iload_n hx hb d_Model_init_111 rfl (lv_at hl 0 rfl) ?_
  refine lv_iadd hx hb d_Model_init_112 ?_
  refine lv_topi (fun z12 hz12 => ?_)
  replace hz12 : z12 = 4 := hz12.trans (by decide)
  subst hz12
  refine lv_iload_n hx hb d_Model_init_113 rfl (lv_at hl 0 rfl) ?_
  refine lv_bipush (v := 10) hx hb d_Model_init_114 (by decide) ?_
  refine lv_irem hx hb d_Model_init_116 (by decide) ?_
  refine lv_topi (fun z13 hz13 => ?_)
  replace hz13 : z13 = 1 := hz13.trans (by decide)
  subst hz13
  refine g_stI C h (k := 71) (N := 83) (by decide) g71_9 rfl (by decide) (i0 := 4) (by decide) (by decide) d_Model_init_117 (fun H locs h => ?_)
  refine lv_iinc (v := 2) (lv' := [(1, .int (2 : Int32)), (0, .ref x)]) hx hb d_Model_init_118 hl (k := 0) rfl (by decide) (by decide) rfl (fun ls hl => ?_)
  refine lv_goto (tgt := 100) hx hb d_Model_init_121 (by decide) ?_
  refine lv_iload_n hx hb d_Model_init_100 rfl (lv_at hl 0 rfl) ?_
  refine lv_bipush (v := 16) hx hb d_Model_init_101 (by decide) ?_
  refine lv_icmp_ge (tgt := 124) hx hb d_Model_init_103 (by decide) (fun q => absurd q (by decide)) (fun _ => ?_)
  refine lv_aload_n hx hb d_Model_init_106 rfl (lv_at hl 1 rfl) ?_
  refine g_get C h (k := 70) (q := 71) (by decide) g70_9 rfl (rfl : cls[6]? = some (R_Model, T_Model, 16)) in_Model 0 (by decide) tw_794 rfl rfl g71_9 d_Model_init_107 ?_
  refine lv_iconst (v := 3) hx hb d_Model_init_110 (by decide) ?_
  refine lv_iload_n hx hb d_Model_init_111 rfl (lv_at hl 0 rfl) ?_
  refine lv_iadd hx hb d_Model_init_112 ?_
  refine lv_topi (fun z14 hz14 => ?_)
  replace hz14 : z14 = 5 := hz14.trans (by decide)
  subst hz14
  refine lv_iload_n hx hb d_Model_init_113 rfl (lv_at hl 0 rfl) ?_
  refine lv_bipush (v := 10) hx hb d_Model_init_114 (by decide) ?_
  refine lv_irem hx hb d_Model_init_116 (by decide) ?_
  refine lv_topi (fun z15 hz15 => ?_)
  replace hz15 : z15 = 2 := hz15.trans (by decide)
  subst hz15
  refine g_stI C h (k := 71) (N := 83) (by decide) g71_9 rfl (by decide) (i0 := 5) (by decide) (by decide) d_Model_init_117 (fun H locs h => ?_)
  refine lv_iinc (v := 3) (lv' := [(1, .int (3 : Int32)), (0, .ref x)]) hx hb d_Model_init_118 hl (k := 0) rfl (by decide) (by decide) rfl (fun ls hl => ?_)
  refine lv_goto (tgt := 100) hx hb d_Model_init_121 (by decide) ?_
  refine lv_iload_n hx hb d_Model_init_100 rfl (lv_at hl 0 rfl) ?_
  refine lv_bipush (v := 16) hx hb d_Model_init_101 (by decide) ?_
  refine lv_icmp_ge (tgt := 124) hx hb d_Model_init_103 (by decide) (fun q => absurd q (by decide)) (fun _ => ?_)
  refine lv_aload_n hx hb d_Model_init_106 rfl (lv_at hl 1 rfl) ?_
  refine g_get C h (k := 70) (q := 71) (by decide) g70_9 rfl (rfl : cls[6]? = some (R_Model, T_Model, 16)) in_Model 0 (by decide) tw_794 rfl rfl g71_9 d_Model_init_107 ?_
  refine lv_iconst (v := 3) hx hb d_Model_init_110 (by decide) ?_
  refine lv_iload_n hx hb d_Model_init_111 rfl (lv_at hl 0 rfl) ?_
  refine lv_iadd hx hb d_Model_init_112 ?_
  refine lv_topi (fun z16 hz16 => ?_)
  replace hz16 : z16 = 6 := hz16.trans (by decide)
  subst hz16
  refine lv_iload_n hx hb d_Model_init_113 rfl (lv_at hl 0 rfl) ?_
  refine lv_bipush (v := 10) hx hb d_Model_init_114 (by decide) ?_
  refine lv_irem hx hb d_Model_init_116 (by decide) ?_
  refine lv_topi (fun z17 hz17 => ?_)
  replace hz17 : z17 = 3 := hz17.trans (by decide)
  subst hz17
  refine g_stI C h (k := 71) (N := 83) (by decide) g71_9 rfl (by decide) (i0 := 6) (by decide) (by decide) d_Model_init_117 (fun H locs h => ?_)
  refine lv_iinc (v := 4) (lv' := [(1, .int (4 : Int32)), (0, .ref x)]) hx hb d_Model_init_118 hl (k := 0) rfl (by decide) (by decide) rfl (fun ls hl => ?_)
  refine lv_goto (tgt := 100) hx hb d_Model_init_121 (by decide) ?_
  refine lv_iload_n hx hb d_Model_init_100 rfl (lv_at hl 0 rfl) ?_
  refine lv_bipush (v := 16) hx hb d_Model_init_101 (by decide) ?_
  refine lv_icmp_ge (tgt := 124) hx hb d_Model_init_103 (by decide) (fun q => absurd q (by decide)) (fun _ => ?_)
  refine lv_aload_n hx hb d_Model_init_106 rfl (lv_at hl 1 rfl) ?_
  refine g_get C h (k := 70) (q := 71) (by decide) g70_9 rfl (rfl : cls[6]? = some (R_Model, T_Model, 16)) in_Model 0 (by decide) tw_794 rfl rfl g71_9 d_Model_init_107 ?_
  refine lv_iconst (v := 3) hx hb d_Model_init_110 (by decide) ?_
  refine lv_iload_n hx hb d_Model_init_111 rfl (lv_at hl 0 rfl) ?_
  refine lv_iadd hx hb d_Model_init_112 ?_
  refine lv_topi (fun z18 hz18 => ?_)
  replace hz18 : z18 = 7 := hz18.trans (by decide)
  subst hz18
  refine lv_iload_n hx hb d_Model_init_113 rfl (lv_at hl 0 rfl) ?_
  refine lv_bipush (v := 10) hx hb d_Model_init_114 (by decide) ?_
  refine lv_irem hx hb d_Model_init_116 (by decide) ?_
  refine lv_topi (fun z19 hz19 => ?_)
  replace hz19 : z19 = 4 := hz19.trans (by decide)
  subst hz19
  refine g_stI C h (k := 71) (N := 83) (by decide) g71_9 rfl (by decide) (i0 := 7) (by decide) (by decide) d_Model_init_117 (fun H locs h => ?_)
  refine lv_iinc (v := 5) (lv' := [(1, .int (5 : Int32)), (0, .ref x)]) hx hb d_Model_init_118 hl (k := 0) rfl (by decide) (by decide) rfl (fun ls hl => ?_)
  refine lv_goto (tgt := 100) hx hb d_Model_init_121 (by decide) ?_
  refine lv_iload_n hx hb d_Model_init_100 rfl (lv_at hl 0 rfl) ?_
  refine lv_bipush (v := 16) hx hb d_Model_init_101 (by decide) ?_
  refine lv_icmp_ge (tgt := 124) hx hb d_Model_init_103 (by decide) (fun q => absurd q (by decide)) (fun _ => ?_)
  refine lv_aload_n hx hb d_Model_init_106 rfl (lv_at hl 1 rfl) ?_
  refine g_get C h (k := 70) (q := 71) (by decide) g70_9 rfl (rfl : cls[6]? = some (R_Model, T_Model, 16)) in_Model 0 (by decide) tw_794 rfl rfl g71_9 d_Model_init_107 ?_
  refine lv_iconst (v := 3) hx hb d_Model_init_110 (by decide) ?_
  refine lv_iload_n hx hb d_Model_init_111 rfl (lv_at hl 0 rfl) ?_
  refine lv_iadd hx hb d_Model_init_112 ?_
  refine lv_topi (fun z20 hz20 => ?_)
  replace hz20 : z20 = 8 := hz20.trans (by decide)
  subst hz20
  refine lv_iload_n hx hb d_Model_init_113 rfl (lv_at hl 0 rfl) ?_
  refine lv_bipush (v := 10) hx hb d_Model_init_114 (by decide) ?_
  refine lv_irem hx hb d_Model_init_116 (by decide) ?_
  refine lv_topi (fun z21 hz21 => ?_)
  replace hz21 : z21 = 5 := hz21.trans (by decide)
  subst hz21
  refine g_stI C h (k := 71) (N := 83) (by decide) g71_9 rfl (by decide) (i0 := 8) (by decide) (by decide) d_Model_init_117 (fun H locs h => ?_)
  refine lv_iinc (v := 6) (lv' := [(1, .int (6 : Int32)), (0, .ref x)]) hx hb d_Model_init_118 hl (k := 0) rfl (by decide) (by decide) rfl (fun ls hl => ?_)
  refine lv_goto (tgt := 100) hx hb d_Model_init_121 (by decide) ?_
  refine lv_iload_n hx hb d_Model_init_100 rfl (lv_at hl 0 rfl) ?_
  refine lv_bipush (v := 16) hx hb d_Model_init_101 (by decide) ?_
  refine lv_icmp_ge (tgt := 124) hx hb d_Model_init_103 (by decide) (fun q => absurd q (by decide)) (fun _ => ?_)
  refine lv_aload_n hx hb d_Model_init_106 rfl (lv_at hl 1 rfl) ?_
  refine g_get C h (k := 70) (q := 71) (by decide) g70_9 rfl (rfl : cls[6]? = some (R_Model, T_Model, 16)) in_Model 0 (by decide) tw_794 rfl rfl g71_9 d_Model_init_107 ?_
  refine lv_iconst (v := 3) hx hb d_Model_init_110 (by decide) ?_
  refine lv_iload_n hx hb d_Model_init_111 rfl (lv_at hl 0 rfl) ?_
  refine lv_iadd hx hb d_Model_init_112 ?_
  refine lv_topi (fun z22 hz22 => ?_)
  replace hz22 : z22 = 9 := hz22.trans (by decide)
  subst hz22
  refine lv_iload_n hx hb d_Model_init_113 rfl (lv_at hl 0 rfl) ?_
  refine lv_bipush (v := 10) hx hb d_Model_init_114 (by decide) ?_
  refine lv_irem hx hb d_Model_init_116 (by decide) ?_
  refine lv_topi (fun z23 hz23 => ?_)
  replace hz23 : z23 = 6 := hz23.trans (by decide)
  subst hz23
  refine g_stI C h (k := 71) (N := 83) (by decide) g71_9 rfl (by decide) (i0 := 9) (by decide) (by decide) d_Model_init_117 (fun H locs h => ?_)
  refine lv_iinc (v := 7) (lv' := [(1, .int (7 : Int32)), (0, .ref x)]) hx hb d_Model_init_118 hl (k := 0) rfl (by decide) (by decide) rfl (fun ls hl => ?_)
  refine lv_goto (tgt := 100) hx hb d_Model_init_121 (by decide) ?_
  refine lv_iload_n hx hb d_Model_init_100 rfl (lv_at hl 0 rfl) ?_
  refine lv_bipush (v := 16) hx hb d_Model_init_101 (by decide) ?_
  refine lv_icmp_ge (tgt := 124) hx hb d_Model_init_103 (by decide) (fun q => absurd q (by decide)) (fun _ => ?_)
  refine lv_aload_n hx hb d_Model_init_106 rfl (lv_at hl 1 rfl) ?_
  refine g_get C h (k := 70) (q := 71) (by decide) g70_9 rfl (rfl : cls[6]? = some (R_Model, T_Model, 16)) in_Model 0 (by decide) tw_794 rfl rfl g71_9 d_Model_init_107 ?_
  refine lv_iconst (v := 3) hx hb d_Model_init_110 (by decide) ?_
  refine lv_iload_n hx hb d_Model_init_111 rfl (lv_at hl 0 rfl) ?_
  refine lv_iadd hx hb d_Model_init_112 ?_
  refine lv_topi (fun z24 hz24 => ?_)
  replace hz24 : z24 = 10 := hz24.trans (by decide)
  subst hz24
  refine lv_iload_n hx hb d_Model_init_113 rfl (lv_at hl 0 rfl) ?_
  refine lv_bipush (v := 10) hx hb d_Model_init_114 (by decide) ?_
  refine lv_irem hx hb d_Model_init_116 (by decide) ?_
  refine lv_topi (fun z25 hz25 => ?_)
  replace hz25 : z25 = 7 := hz25.trans (by decide)
  subst hz25
  refine g_stI C h (k := 71) (N := 83) (by decide) g71_9 rfl (by decide) (i0 := 10) (by decide) (by decide) d_Model_init_117 (fun H locs h => ?_)
  refine lv_iinc (v := 8) (lv' := [(1, .int (8 : Int32)), (0, .ref x)]) hx hb d_Model_init_118 hl (k := 0) rfl (by decide) (by decide) rfl (fun ls hl => ?_)
  refine lv_goto (tgt := 100) hx hb d_Model_init_121 (by decide) ?_
  refine lv_iload_n hx hb d_Model_init_100 rfl (lv_at hl 0 rfl) ?_
  refine lv_bipush (v := 16) hx hb d_Model_init_101 (by decide) ?_
  refine lv_icmp_ge (tgt := 124) hx hb d_Model_init_103 (by decide) (fun q => absurd q (by decide)) (fun _ => ?_)
  refine lv_aload_n hx hb d_Model_init_106 rfl (lv_at hl 1 rfl) ?_
  refine g_get C h (k := 70) (q := 71) (by decide) g70_9 rfl (rfl : cls[6]? = some (R_Model, T_Model, 16)) in_Model 0 (by decide) tw_794 rfl rfl g71_9 d_Model_init_107 ?_
  refine lv_iconst (v := 3) hx hb d_Model_init_110 (by decide) ?_
  refine lv_iload_n hx hb d_Model_init_111 rfl (lv_at hl 0 rfl) ?_
  refine lv_iadd hx hb d_Model_init_112 ?_
  refine lv_topi (fun z26 hz26 => ?_)
  replace hz26 : z26 = 11 := hz26.trans (by decide)
  subst hz26
  refine lv_iload_n hx hb d_Model_init_113 rfl (lv_at hl 0 rfl) ?_
  refine lv_bipush (v := 10) hx hb d_Model_init_114 (by decide) ?_
  refine lv_irem hx hb d_Model_init_116 (by decide) ?_
  refine lv_topi (fun z27 hz27 => ?_)
  replace hz27 : z27 = 8 := hz27.trans (by decide)
  subst hz27
  refine g_stI C h (k := 71) (N := 83) (by decide) g71_9 rfl (by decide) (i0 := 11) (by decide) (by decide) d_Model_init_117 (fun H locs h => ?_)
  refine lv_iinc (v := 9) (lv' := [(1, .int (9 : Int32)), (0, .ref x)]) hx hb d_Model_init_118 hl (k := 0) rfl (by decide) (by decide) rfl (fun ls hl => ?_)
  refine lv_goto (tgt := 100) hx hb d_Model_init_121 (by decide) ?_
  refine lv_iload_n hx hb d_Model_init_100 rfl (lv_at hl 0 rfl) ?_
  refine lv_bipush (v := 16) hx hb d_Model_init_101 (by decide) ?_
  refine lv_icmp_ge (tgt := 124) hx hb d_Model_init_103 (by decide) (fun q => absurd q (by decide)) (fun _ => ?_)
  refine lv_aload_n hx hb d_Model_init_106 rfl (lv_at hl 1 rfl) ?_
  refine g_get C h (k := 70) (q := 71) (by decide) g70_9 rfl (rfl : cls[6]? = some (R_Model, T_Model, 16)) in_Model 0 (by decide) tw_794 rfl rfl g71_9 d_Model_init_107 ?_
  refine lv_iconst (v := 3) hx hb d_Model_init_110 (by decide) ?_
  refine lv_iload_n hx hb d_Model_init_111 rfl (lv_at hl 0 rfl) ?_
  refine lv_iadd hx hb d_Model_init_112 ?_
  refine lv_topi (fun z28 hz28 => ?_)
  replace hz28 : z28 = 12 := hz28.trans (by decide)
  subst hz28
  refine lv_iload_n hx hb d_Model_init_113 rfl (lv_at hl 0 rfl) ?_
  refine lv_bipush (v := 10) hx hb d_Model_init_114 (by decide) ?_
  refine lv_irem hx hb d_Model_init_116 (by decide) ?_
  refine lv_topi (fun z29 hz29 => ?_)
  replace hz29 : z29 = 9 := hz29.trans (by decide)
  subst hz29
  refine g_stI C h (k := 71) (N := 83) (by decide) g71_9 rfl (by decide) (i0 := 12) (by decide) (by decide) d_Model_init_117 (fun H locs h => ?_)
  refine lv_iinc (v := 10) (lv' := [(1, .int (10 : Int32)), (0, .ref x)]) hx hb d_Model_init_118 hl (k := 0) rfl (by decide) (by decide) rfl (fun ls hl => ?_)
  refine lv_goto (tgt := 100) hx hb d_Model_init_121 (by decide) ?_
  refine lv_iload_n hx hb d_Model_init_100 rfl (lv_at hl 0 rfl) ?_
  refine lv_bipush (v := 16) hx hb d_Model_init_101 (by decide) ?_
  refine lv_icmp_ge (tgt := 124) hx hb d_Model_init_103 (by decide) (fun q => absurd q (by decide)) (fun _ => ?_)
  refine lv_aload_n hx hb d_Model_init_106 rfl (lv_at hl 1 rfl) ?_
  refine g_get C h (k := 70) (q := 71) (by decide) g70_9 rfl (rfl : cls[6]? = some (R_Model, T_Model, 16)) in_Model 0 (by decide) tw_794 rfl rfl g71_9 d_Model_init_107 ?_
  refine lv_iconst (v := 3) hx hb d_Model_init_110 (by decide) ?_
  refine lv_iload_n hx hb d_Model_init_111 rfl (lv_at hl 0 rfl) ?_
  refine lv_iadd hx hb d_Model_init_112 ?_
  refine lv_topi (fun z30 hz30 => ?_)
  replace hz30 : z30 = 13 := hz30.trans (by decide)
  subst hz30
  refine lv_iload_n hx hb d_Model_init_113 rfl (lv_at hl 0 rfl) ?_
  refine lv_bipush (v := 10) hx hb d_Model_init_114 (by decide) ?_
  refine lv_irem hx hb d_Model_init_116 (by decide) ?_
  refine lv_topi (fun z31 hz31 => ?_)
  replace hz31 : z31 = 0 := hz31.trans (by decide)
  subst hz31
  refine g_stI C h (k := 71) (N := 83) (by decide) g71_9 rfl (by decide) (i0 := 13) (by decide) (by decide) d_Model_init_117 (fun H locs h => ?_)
  refine lv_iinc (v := 11) (lv' := [(1, .int (11 : Int32)), (0, .ref x)]) hx hb d_Model_init_118 hl (k := 0) rfl (by decide) (by decide) rfl (fun ls hl => ?_)
  refine lv_goto (tgt := 100) hx hb d_Model_init_121 (by decide) ?_
  refine lv_iload_n hx hb d_Model_init_100 rfl (lv_at hl 0 rfl) ?_
  refine lv_bipush (v := 16) hx hb d_Model_init_101 (by decide) ?_
  refine lv_icmp_ge (tgt := 124) hx hb d_Model_init_103 (by decide) (fun q => absurd q (by decide)) (fun _ => ?_)
  refine lv_aload_n hx hb d_Model_init_106 rfl (lv_at hl 1 rfl) ?_
  refine g_get C h (k := 70) (q := 71) (by decide) g70_9 rfl (rfl : cls[6]? = some (R_Model, T_Model, 16)) in_Model 0 (by decide) tw_794 rfl rfl g71_9 d_Model_init_107 ?_
  refine lv_iconst (v := 3) hx hb d_Model_init_110 (by decide) ?_
  refine lv_iload_n hx hb d_Model_init_111 rfl (lv_at hl 0 rfl) ?_
  refine lv_iadd hx hb d_Model_init_112 ?_
  refine lv_topi (fun z32 hz32 => ?_)
  replace hz32 : z32 = 14 := hz32.trans (by decide)
  subst hz32
  refine lv_iload_n hx hb d_Model_init_113 rfl (lv_at hl 0 rfl) ?_
  refine lv_bipush (v := 10) hx hb d_Model_init_114 (by decide) ?_
  refine lv_irem hx hb d_Model_init_116 (by decide) ?_
  refine lv_topi (fun z33 hz33 => ?_)
  replace hz33 : z33 = 1 := hz33.trans (by decide)
  subst hz33
  refine g_stI C h (k := 71) (N := 83) (by decide) g71_9 rfl (by decide) (i0 := 14) (by decide) (by decide) d_Model_init_117 (fun H locs h => ?_)
  refine lv_iinc (v := 12) (lv' := [(1, .int (12 : Int32)), (0, .ref x)]) hx hb d_Model_init_118 hl (k := 0) rfl (by decide) (by decide) rfl (fun ls hl => ?_)
  refine lv_goto (tgt := 100) hx hb d_Model_init_121 (by decide) ?_
  refine lv_iload_n hx hb d_Model_init_100 rfl (lv_at hl 0 rfl) ?_
  refine lv_bipush (v := 16) hx hb d_Model_init_101 (by decide) ?_
  refine lv_icmp_ge (tgt := 124) hx hb d_Model_init_103 (by decide) (fun q => absurd q (by decide)) (fun _ => ?_)
  refine lv_aload_n hx hb d_Model_init_106 rfl (lv_at hl 1 rfl) ?_
  refine g_get C h (k := 70) (q := 71) (by decide) g70_9 rfl (rfl : cls[6]? = some (R_Model, T_Model, 16)) in_Model 0 (by decide) tw_794 rfl rfl g71_9 d_Model_init_107 ?_
  refine lv_iconst (v := 3) hx hb d_Model_init_110 (by decide) ?_
  refine lv_iload_n hx hb d_Model_init_111 rfl (lv_at hl 0 rfl) ?_
  refine lv_iadd hx hb d_Model_init_112 ?_
  refine lv_topi (fun z34 hz34 => ?_)
  replace hz34 : z34 = 15 := hz34.trans (by decide)
  subst hz34
  refine lv_iload_n hx hb d_Model_init_113 rfl (lv_at hl 0 rfl) ?_
  refine lv_bipush (v := 10) hx hb d_Model_init_114 (by decide) ?_
  refine lv_irem hx hb d_Model_init_116 (by decide) ?_
  refine lv_topi (fun z35 hz35 => ?_)
  replace hz35 : z35 = 2 := hz35.trans (by decide)
  subst hz35
  refine g_stI C h (k := 71) (N := 83) (by decide) g71_9 rfl (by decide) (i0 := 15) (by decide) (by decide) d_Model_init_117 (fun H locs h => ?_)
  refine lv_iinc (v := 13) (lv' := [(1, .int (13 : Int32)), (0, .ref x)]) hx hb d_Model_init_118 hl (k := 0) rfl (by decide) (by decide) rfl (fun ls hl => ?_)
  refine lv_goto (tgt := 100) hx hb d_Model_init_121 (by decide) ?_
  refine lv_iload_n hx hb d_Model_init_100 rfl (lv_at hl 0 rfl) ?_
  refine lv_bipush (v := 16) hx hb d_Model_init_101 (by decide) ?_
  refine lv_icmp_ge (tgt := 124) hx hb d_Model_init_103 (by decide) (fun q => absurd q (by decide)) (fun _ => ?_)
  refine lv_aload_n hx hb d_Model_init_106 rfl (lv_at hl 1 rfl) ?_
  refine g_get C h (k := 70) (q := 71) (by decide) g70_9 rfl (rfl : cls[6]? = some (R_Model, T_Model, 16)) in_Model 0 (by decide) tw_794 rfl rfl g71_9 d_Model_init_107 ?_
  refine lv_iconst (v := 3) hx hb d_Model_init_110 (by decide) ?_
  refine lv_iload_n hx hb d_Model_init_111 rfl (lv_at hl 0 rfl) ?_
  refine lv_iadd hx hb d_Model_init_112 ?_
  refine lv_topi (fun z36 hz36 => ?_)
  replace hz36 : z36 = 16 := hz36.trans (by decide)
  subst hz36
  refine lv_iload_n hx hb d_Model_init_113 rfl (lv_at hl 0 rfl) ?_
  refine lv_bipush (v := 10) hx hb d_Model_init_114 (by decide) ?_
  refine lv_irem hx hb d_Model_init_116 (by decide) ?_
  refine lv_topi (fun z37 hz37 => ?_)
  replace hz37 : z37 = 3 := hz37.trans (by decide)
  subst hz37
  refine g_stI C h (k := 71) (N := 83) (by decide) g71_9 rfl (by decide) (i0 := 16) (by decide) (by decide) d_Model_init_117 (fun H locs h => ?_)
  refine lv_iinc (v := 14) (lv' := [(1, .int (14 : Int32)), (0, .ref x)]) hx hb d_Model_init_118 hl (k := 0) rfl (by decide) (by decide) rfl (fun ls hl => ?_)
  refine lv_goto (tgt := 100) hx hb d_Model_init_121 (by decide) ?_
  refine lv_iload_n hx hb d_Model_init_100 rfl (lv_at hl 0 rfl) ?_
  refine lv_bipush (v := 16) hx hb d_Model_init_101 (by decide) ?_
  refine lv_icmp_ge (tgt := 124) hx hb d_Model_init_103 (by decide) (fun q => absurd q (by decide)) (fun _ => ?_)
  refine lv_aload_n hx hb d_Model_init_106 rfl (lv_at hl 1 rfl) ?_
  refine g_get C h (k := 70) (q := 71) (by decide) g70_9 rfl (rfl : cls[6]? = some (R_Model, T_Model, 16)) in_Model 0 (by decide) tw_794 rfl rfl g71_9 d_Model_init_107 ?_
  refine lv_iconst (v := 3) hx hb d_Model_init_110 (by decide) ?_
  refine lv_iload_n hx hb d_Model_init_111 rfl (lv_at hl 0 rfl) ?_
  refine lv_iadd hx hb d_Model_init_112 ?_
  refine lv_topi (fun z38 hz38 => ?_)
  replace hz38 : z38 = 17 := hz38.trans (by decide)
  subst hz38
  refine lv_iload_n hx hb d_Model_init_113 rfl (lv_at hl 0 rfl) ?_
  refine lv_bipush (v := 10) hx hb d_Model_init_114 (by decide) ?_
  refine lv_irem hx hb d_Model_init_116 (by decide) ?_
  refine lv_topi (fun z39 hz39 => ?_)
  replace hz39 : z39 = 4 := hz39.trans (by decide)
  subst hz39
  refine g_stI C h (k := 71) (N := 83) (by decide) g71_9 rfl (by decide) (i0 := 17) (by decide) (by decide) d_Model_init_117 (fun H locs h => ?_)
  refine lv_iinc (v := 15) (lv' := [(1, .int (15 : Int32)), (0, .ref x)]) hx hb d_Model_init_118 hl (k := 0) rfl (by decide) (by decide) rfl (fun ls hl => ?_)
  refine lv_goto (tgt := 100) hx hb d_Model_init_121 (by decide) ?_
  refine lv_iload_n hx hb d_Model_init_100 rfl (lv_at hl 0 rfl) ?_
  refine lv_bipush (v := 16) hx hb d_Model_init_101 (by decide) ?_
  refine lv_icmp_ge (tgt := 124) hx hb d_Model_init_103 (by decide) (fun q => absurd q (by decide)) (fun _ => ?_)
  refine lv_aload_n hx hb d_Model_init_106 rfl (lv_at hl 1 rfl) ?_
  refine g_get C h (k := 70) (q := 71) (by decide) g70_9 rfl (rfl : cls[6]? = some (R_Model, T_Model, 16)) in_Model 0 (by decide) tw_794 rfl rfl g71_9 d_Model_init_107 ?_
  refine lv_iconst (v := 3) hx hb d_Model_init_110 (by decide) ?_
  refine lv_iload_n hx hb d_Model_init_111 rfl (lv_at hl 0 rfl) ?_
  refine lv_iadd hx hb d_Model_init_112 ?_
  refine lv_topi (fun z40 hz40 => ?_)
  replace hz40 : z40 = 18 := hz40.trans (by decide)
  subst hz40
  refine lv_iload_n hx hb d_Model_init_113 rfl (lv_at hl 0 rfl) ?_
  refine lv_bipush (v := 10) hx hb d_Model_init_114 (by decide) ?_
  refine lv_irem hx hb d_Model_init_116 (by decide) ?_
  refine lv_topi (fun z41 hz41 => ?_)
  replace hz41 : z41 = 5 := hz41.trans (by decide)
  subst hz41
  refine g_stI C h (k := 71) (N := 83) (by decide) g71_9 rfl (by decide) (i0 := 18) (by decide) (by decide) d_Model_init_117 (fun H locs h => ?_)
  refine lv_iinc (v := 16) (lv' := [(1, .int (16 : Int32)), (0, .ref x)]) hx hb d_Model_init_118 hl (k := 0) rfl (by decide) (by decide) rfl (fun ls hl => ?_)
  refine lv_goto (tgt := 100) hx hb d_Model_init_121 (by decide) ?_
  refine lv_iload_n hx hb d_Model_init_100 rfl (lv_at hl 0 rfl) ?_
  refine lv_bipush (v := 16) hx hb d_Model_init_101 (by decide) ?_
  refine lv_icmp_ge (tgt := 124) hx hb d_Model_init_103 (by decide) (fun _ => ?_) (fun q => absurd (by decide) q)
  exact g_vret C h hag ⟨rfl, rfl, rfl⟩ d_Model_init_124
