def pr_L_law (n : Nat) (f : Nat → Int) : Par := (ftL9, [(72, (3, 2, 0, sp_L_append)), (77, (2, 0, 8 + 1, sp_X8_append)), (78, (1, 0, 8 + 1, sp_X8_thrown)), (81, (1, 0, 7 + 1, sp_X7_clearText)), (84, (1, 0, 8 + 1, sp_X8_clearText)), (85, (1, 0, 7 + 1, sp_X7_parse)), (88, (1, 0, 8 + 1, sp_X8_parse)), (89, (4, 2, 0, sp_L_setWeight)), (92, (3, 0, 8 + 1, sp_X8_setWeight)), (93, (5, 3, 0, sp_L_setKind)), (96, (4, 0, 8 + 1, sp_X8_setKind)), (97, (3, 1, 0, sp_L_remove)), (99, (2, 0, 8 + 1, sp_X8_remove)), (100, (4, 2, 0, sp_L_setCanvas)), (102, (3, 0, 8 + 1, sp_X8_setCanvas)), (103, (5, 3, 0, sp_L_setWays)), (105, (4, 0, 8 + 1, sp_X8_setWays)), (106, (4, 2, 0, sp_L_word)), (108, (3, 0, 8 + 1, sp_X8_word)), (109, (4, 2, 0, sp_L_letter)), (111, (3, 0, 8 + 1, sp_X8_letter)), (112, (3, 1, 0, sp_L_value)), (114, (2, 0, 8 + 1, sp_X8_value)), (115, (2, 0, 7 + 1, sp_X7_lay)), (119, (2, 0, 8 + 1, sp_X8_lay)), (120, (4, 2, 0, sp_L_place)), (122, (3, 0, 8 + 1, sp_X8_place)), (123, (4, 2, 0, sp_L_wordAt)), (125, (3, 0, 8 + 1, sp_X8_wordAt)), (126, (1, 0, 7 + 1, sp_X7_meetings)), (129, (1, 0, 8 + 1, sp_X8_meetings)), (130, (3, 1, 0, sp_L_extent)), (132, (2, 0, 8 + 1, sp_X8_extent)), (133, (1, 0, 7 + 1, sp_X7_covered)), (137, (1, 0, 8 + 1, sp_X8_covered)), (138, (3, 1, 0, sp_L_spread)), (140, (2, 0, 8 + 1, sp_X8_spread)), (141, (5, 2, 0, sp_L_placedOn)), (144, (4, 0, 8 + 1, sp_X8_placedOn)), (145, (1, 0, 7 + 1, sp_X7_narrowest)), (148, (1, 0, 8 + 1, sp_X8_narrowest)), (149, (4, 2, 0, sp_L_movedBy)), (151, (3, 0, 8 + 1, sp_X8_movedBy)), (152, (1, 0, 7 + 1, sp_X7_bestStride)), (155, (1, 0, 8 + 1, sp_X8_bestStride)), (156, (2, 1, 0, sp_L_undo)), (159, (1, 0, 8 + 1, sp_X8_undo)), (160, (1, 0, 7 + 1, sp_X7_digest)), (164, (1, 0, 8 + 1, sp_X8_digest))], [], [], 2, 2048, some (n, f))
theorem ca_L_law_72 {n : Nat} {f : Nat → Int} : List.lookup 72 (pr_L_law n f).2.1 = some (3, 2, 0, sp_L_append) := rfl
theorem ca_L_law_77 {n : Nat} {f : Nat → Int} : List.lookup 77 (pr_L_law n f).2.1 = some (2, 0, 8 + 1, sp_X8_append) := rfl
theorem ca_L_law_78 {n : Nat} {f : Nat → Int} : List.lookup 78 (pr_L_law n f).2.1 = some (1, 0, 8 + 1, sp_X8_thrown) := rfl
theorem ca_L_law_81 {n : Nat} {f : Nat → Int} : List.lookup 81 (pr_L_law n f).2.1 = some (1, 0, 7 + 1, sp_X7_clearText) := rfl
theorem ca_L_law_84 {n : Nat} {f : Nat → Int} : List.lookup 84 (pr_L_law n f).2.1 = some (1, 0, 8 + 1, sp_X8_clearText) := rfl
theorem ca_L_law_85 {n : Nat} {f : Nat → Int} : List.lookup 85 (pr_L_law n f).2.1 = some (1, 0, 7 + 1, sp_X7_parse) := rfl
theorem ca_L_law_88 {n : Nat} {f : Nat → Int} : List.lookup 88 (pr_L_law n f).2.1 = some (1, 0, 8 + 1, sp_X8_parse) := rfl
theorem ca_L_law_89 {n : Nat} {f : Nat → Int} : List.lookup 89 (pr_L_law n f).2.1 = some (4, 2, 0, sp_L_setWeight) := rfl
theorem ca_L_law_92 {n : Nat} {f : Nat → Int} : List.lookup 92 (pr_L_law n f).2.1 = some (3, 0, 8 + 1, sp_X8_setWeight) := rfl
theorem ca_L_law_93 {n : Nat} {f : Nat → Int} : List.lookup 93 (pr_L_law n f).2.1 = some (5, 3, 0, sp_L_setKind) := rfl
theorem ca_L_law_96 {n : Nat} {f : Nat → Int} : List.lookup 96 (pr_L_law n f).2.1 = some (4, 0, 8 + 1, sp_X8_setKind) := rfl
theorem ca_L_law_97 {n : Nat} {f : Nat → Int} : List.lookup 97 (pr_L_law n f).2.1 = some (3, 1, 0, sp_L_remove) := rfl
theorem ca_L_law_99 {n : Nat} {f : Nat → Int} : List.lookup 99 (pr_L_law n f).2.1 = some (2, 0, 8 + 1, sp_X8_remove) := rfl
theorem ca_L_law_100 {n : Nat} {f : Nat → Int} : List.lookup 100 (pr_L_law n f).2.1 = some (4, 2, 0, sp_L_setCanvas) := rfl
theorem ca_L_law_102 {n : Nat} {f : Nat → Int} : List.lookup 102 (pr_L_law n f).2.1 = some (3, 0, 8 + 1, sp_X8_setCanvas) := rfl
theorem ca_L_law_103 {n : Nat} {f : Nat → Int} : List.lookup 103 (pr_L_law n f).2.1 = some (5, 3, 0, sp_L_setWays) := rfl
theorem ca_L_law_105 {n : Nat} {f : Nat → Int} : List.lookup 105 (pr_L_law n f).2.1 = some (4, 0, 8 + 1, sp_X8_setWays) := rfl
theorem ca_L_law_106 {n : Nat} {f : Nat → Int} : List.lookup 106 (pr_L_law n f).2.1 = some (4, 2, 0, sp_L_word) := rfl
theorem ca_L_law_108 {n : Nat} {f : Nat → Int} : List.lookup 108 (pr_L_law n f).2.1 = some (3, 0, 8 + 1, sp_X8_word) := rfl
theorem ca_L_law_109 {n : Nat} {f : Nat → Int} : List.lookup 109 (pr_L_law n f).2.1 = some (4, 2, 0, sp_L_letter) := rfl
theorem ca_L_law_111 {n : Nat} {f : Nat → Int} : List.lookup 111 (pr_L_law n f).2.1 = some (3, 0, 8 + 1, sp_X8_letter) := rfl
theorem ca_L_law_112 {n : Nat} {f : Nat → Int} : List.lookup 112 (pr_L_law n f).2.1 = some (3, 1, 0, sp_L_value) := rfl
theorem ca_L_law_114 {n : Nat} {f : Nat → Int} : List.lookup 114 (pr_L_law n f).2.1 = some (2, 0, 8 + 1, sp_X8_value) := rfl
theorem ca_L_law_115 {n : Nat} {f : Nat → Int} : List.lookup 115 (pr_L_law n f).2.1 = some (2, 0, 7 + 1, sp_X7_lay) := rfl
theorem ca_L_law_119 {n : Nat} {f : Nat → Int} : List.lookup 119 (pr_L_law n f).2.1 = some (2, 0, 8 + 1, sp_X8_lay) := rfl
theorem ca_L_law_120 {n : Nat} {f : Nat → Int} : List.lookup 120 (pr_L_law n f).2.1 = some (4, 2, 0, sp_L_place) := rfl
theorem ca_L_law_122 {n : Nat} {f : Nat → Int} : List.lookup 122 (pr_L_law n f).2.1 = some (3, 0, 8 + 1, sp_X8_place) := rfl
theorem ca_L_law_123 {n : Nat} {f : Nat → Int} : List.lookup 123 (pr_L_law n f).2.1 = some (4, 2, 0, sp_L_wordAt) := rfl
theorem ca_L_law_125 {n : Nat} {f : Nat → Int} : List.lookup 125 (pr_L_law n f).2.1 = some (3, 0, 8 + 1, sp_X8_wordAt) := rfl
theorem ca_L_law_126 {n : Nat} {f : Nat → Int} : List.lookup 126 (pr_L_law n f).2.1 = some (1, 0, 7 + 1, sp_X7_meetings) := rfl
theorem ca_L_law_129 {n : Nat} {f : Nat → Int} : List.lookup 129 (pr_L_law n f).2.1 = some (1, 0, 8 + 1, sp_X8_meetings) := rfl
theorem ca_L_law_130 {n : Nat} {f : Nat → Int} : List.lookup 130 (pr_L_law n f).2.1 = some (3, 1, 0, sp_L_extent) := rfl
theorem ca_L_law_132 {n : Nat} {f : Nat → Int} : List.lookup 132 (pr_L_law n f).2.1 = some (2, 0, 8 + 1, sp_X8_extent) := rfl
theorem ca_L_law_133 {n : Nat} {f : Nat → Int} : List.lookup 133 (pr_L_law n f).2.1 = some (1, 0, 7 + 1, sp_X7_covered) := rfl
theorem ca_L_law_137 {n : Nat} {f : Nat → Int} : List.lookup 137 (pr_L_law n f).2.1 = some (1, 0, 8 + 1, sp_X8_covered) := rfl
theorem ca_L_law_138 {n : Nat} {f : Nat → Int} : List.lookup 138 (pr_L_law n f).2.1 = some (3, 1, 0, sp_L_spread) := rfl
theorem ca_L_law_140 {n : Nat} {f : Nat → Int} : List.lookup 140 (pr_L_law n f).2.1 = some (2, 0, 8 + 1, sp_X8_spread) := rfl
theorem ca_L_law_141 {n : Nat} {f : Nat → Int} : List.lookup 141 (pr_L_law n f).2.1 = some (5, 2, 0, sp_L_placedOn) := rfl
theorem ca_L_law_144 {n : Nat} {f : Nat → Int} : List.lookup 144 (pr_L_law n f).2.1 = some (4, 0, 8 + 1, sp_X8_placedOn) := rfl
theorem ca_L_law_145 {n : Nat} {f : Nat → Int} : List.lookup 145 (pr_L_law n f).2.1 = some (1, 0, 7 + 1, sp_X7_narrowest) := rfl
theorem ca_L_law_148 {n : Nat} {f : Nat → Int} : List.lookup 148 (pr_L_law n f).2.1 = some (1, 0, 8 + 1, sp_X8_narrowest) := rfl
theorem ca_L_law_149 {n : Nat} {f : Nat → Int} : List.lookup 149 (pr_L_law n f).2.1 = some (4, 2, 0, sp_L_movedBy) := rfl
theorem ca_L_law_151 {n : Nat} {f : Nat → Int} : List.lookup 151 (pr_L_law n f).2.1 = some (3, 0, 8 + 1, sp_X8_movedBy) := rfl
theorem ca_L_law_152 {n : Nat} {f : Nat → Int} : List.lookup 152 (pr_L_law n f).2.1 = some (1, 0, 7 + 1, sp_X7_bestStride) := rfl
theorem ca_L_law_155 {n : Nat} {f : Nat → Int} : List.lookup 155 (pr_L_law n f).2.1 = some (1, 0, 8 + 1, sp_X8_bestStride) := rfl
theorem ca_L_law_156 {n : Nat} {f : Nat → Int} : List.lookup 156 (pr_L_law n f).2.1 = some (2, 1, 0, sp_L_undo) := rfl
theorem ca_L_law_159 {n : Nat} {f : Nat → Int} : List.lookup 159 (pr_L_law n f).2.1 = some (1, 0, 8 + 1, sp_X8_undo) := rfl
theorem ca_L_law_160 {n : Nat} {f : Nat → Int} : List.lookup 160 (pr_L_law n f).2.1 = some (1, 0, 7 + 1, sp_X7_digest) := rfl
theorem ca_L_law_164 {n : Nat} {f : Nat → Int} : List.lookup 164 (pr_L_law n f).2.1 = some (1, 0, 8 + 1, sp_X8_digest) := rfl
theorem mcw_L_law {n : Nat} {f : Nat → Int} : (pr_L_law n f).2.2.2.2.2.1 = 2048 := rfl
theorem scw_L_law {n : Nat} {f : Nat → Int} : (pr_L_law n f).2.2.2.2.2.2 = some (n, f) := rfl
theorem mo_L_append {a : List AV} {σ : Sto} {K K1 : Option AV → Sto → Prop} {KX KX1 : Nat → Sto → Prop} (h1 : ∀ r τ, K r τ → K1 r τ) (h2 : ∀ n τ, KX n τ → KX1 n τ) : sp_L_append a σ K KX → sp_L_append a σ K1 KX1 := by
  unfold sp_L_append
  repeat' (first | exact mo_X7_append (fun r τ => Exists.imp fun v => p_and id (p_and id (h1 _ _))) (fun n τ => p_and (fun g e => h1 _ _ (g e)) (fun g e => ⟨(g e).1, h1 _ _ (g e).2⟩)) | exact id | refine Exists.imp (fun _ => ?_) | refine p_and ?_ ?_)
theorem mo_X8_append {a : List AV} {σ : Sto} {K K1 : Option AV → Sto → Prop} {KX KX1 : Nat → Sto → Prop} (h1 : ∀ r τ, K r τ → K1 r τ) (h2 : ∀ n τ, KX n τ → KX1 n τ) : sp_X8_append a σ K KX → sp_X8_append a σ K1 KX1 := by
  unfold sp_X8_append
  repeat' (first | exact id | exact h1 _ _ | exact h2 _ _ | refine p_and ?_ ?_ | refine Exists.imp (fun _ => ?_) | (intro g z; have g := g z; revert g))
theorem mo_X8_thrown {a : List AV} {σ : Sto} {K K1 : Option AV → Sto → Prop} {KX KX1 : Nat → Sto → Prop} (h1 : ∀ r τ, K r τ → K1 r τ) (h2 : ∀ n τ, KX n τ → KX1 n τ) : sp_X8_thrown a σ K KX → sp_X8_thrown a σ K1 KX1 := by
  unfold sp_X8_thrown
  repeat' (first | exact id | exact h1 _ _ | exact h2 _ _ | refine p_and ?_ ?_ | refine Exists.imp (fun _ => ?_) | (intro g z; have g := g z; revert g))
theorem mo_X7_clearText {a : List AV} {σ : Sto} {K K1 : Option AV → Sto → Prop} {KX KX1 : Nat → Sto → Prop} (h1 : ∀ r τ, K r τ → K1 r τ) (h2 : ∀ n τ, KX n τ → KX1 n τ) : sp_X7_clearText a σ K KX → sp_X7_clearText a σ K1 KX1 := by
  unfold sp_X7_clearText
  repeat' (first | exact id | exact h1 _ _ | exact h2 _ _ | refine p_and ?_ ?_ | refine Exists.imp (fun _ => ?_) | (intro g z; have g := g z; revert g))
theorem mo_X8_clearText {a : List AV} {σ : Sto} {K K1 : Option AV → Sto → Prop} {KX KX1 : Nat → Sto → Prop} (h1 : ∀ r τ, K r τ → K1 r τ) (h2 : ∀ n τ, KX n τ → KX1 n τ) : sp_X8_clearText a σ K KX → sp_X8_clearText a σ K1 KX1 := by
  unfold sp_X8_clearText
  repeat' (first | exact id | exact h1 _ _ | exact h2 _ _ | refine p_and ?_ ?_ | refine Exists.imp (fun _ => ?_) | (intro g z; have g := g z; revert g))
theorem mo_X7_parse {a : List AV} {σ : Sto} {K K1 : Option AV → Sto → Prop} {KX KX1 : Nat → Sto → Prop} (h1 : ∀ r τ, K r τ → K1 r τ) (h2 : ∀ n τ, KX n τ → KX1 n τ) : sp_X7_parse a σ K KX → sp_X7_parse a σ K1 KX1 := by
  unfold sp_X7_parse
  repeat' (first | exact id | exact h1 _ _ | exact h2 _ _ | refine p_and ?_ ?_ | refine Exists.imp (fun _ => ?_) | (intro g z; have g := g z; revert g))
theorem mo_X8_parse {a : List AV} {σ : Sto} {K K1 : Option AV → Sto → Prop} {KX KX1 : Nat → Sto → Prop} (h1 : ∀ r τ, K r τ → K1 r τ) (h2 : ∀ n τ, KX n τ → KX1 n τ) : sp_X8_parse a σ K KX → sp_X8_parse a σ K1 KX1 := by
  unfold sp_X8_parse
  repeat' (first | exact id | exact h1 _ _ | exact h2 _ _ | refine p_and ?_ ?_ | refine Exists.imp (fun _ => ?_) | (intro g z; have g := g z; revert g))
theorem mo_L_setWeight {a : List AV} {σ : Sto} {K K1 : Option AV → Sto → Prop} {KX KX1 : Nat → Sto → Prop} (h1 : ∀ r τ, K r τ → K1 r τ) (h2 : ∀ n τ, KX n τ → KX1 n τ) : sp_L_setWeight a σ K KX → sp_L_setWeight a σ K1 KX1 := by
  unfold sp_L_setWeight
  repeat' (first | exact mo_X7_setWeight (fun r τ => Exists.imp fun v => p_and id (p_and id (h1 _ _))) (fun n τ => p_and (fun g e => h1 _ _ (g e)) (fun g e => ⟨(g e).1, h1 _ _ (g e).2⟩)) | exact id | refine Exists.imp (fun _ => ?_) | refine p_and ?_ ?_)
theorem mo_X8_setWeight {a : List AV} {σ : Sto} {K K1 : Option AV → Sto → Prop} {KX KX1 : Nat → Sto → Prop} (h1 : ∀ r τ, K r τ → K1 r τ) (h2 : ∀ n τ, KX n τ → KX1 n τ) : sp_X8_setWeight a σ K KX → sp_X8_setWeight a σ K1 KX1 := by
  unfold sp_X8_setWeight
  repeat' (first | exact id | exact h1 _ _ | exact h2 _ _ | refine p_and ?_ ?_ | refine Exists.imp (fun _ => ?_) | (intro g z; have g := g z; revert g))
theorem mo_L_setKind {a : List AV} {σ : Sto} {K K1 : Option AV → Sto → Prop} {KX KX1 : Nat → Sto → Prop} (h1 : ∀ r τ, K r τ → K1 r τ) (h2 : ∀ n τ, KX n τ → KX1 n τ) : sp_L_setKind a σ K KX → sp_L_setKind a σ K1 KX1 := by
  unfold sp_L_setKind
  repeat' (first | exact mo_X7_setKind (fun r τ => Exists.imp fun v => p_and id (p_and id (h1 _ _))) (fun n τ => p_and (fun g e => h1 _ _ (g e)) (fun g e => ⟨(g e).1, h1 _ _ (g e).2⟩)) | exact id | refine Exists.imp (fun _ => ?_) | refine p_and ?_ ?_)
theorem mo_X8_setKind {a : List AV} {σ : Sto} {K K1 : Option AV → Sto → Prop} {KX KX1 : Nat → Sto → Prop} (h1 : ∀ r τ, K r τ → K1 r τ) (h2 : ∀ n τ, KX n τ → KX1 n τ) : sp_X8_setKind a σ K KX → sp_X8_setKind a σ K1 KX1 := by
  unfold sp_X8_setKind
  repeat' (first | exact id | exact h1 _ _ | exact h2 _ _ | refine p_and ?_ ?_ | refine Exists.imp (fun _ => ?_) | (intro g z; have g := g z; revert g))
theorem mo_L_remove {a : List AV} {σ : Sto} {K K1 : Option AV → Sto → Prop} {KX KX1 : Nat → Sto → Prop} (h1 : ∀ r τ, K r τ → K1 r τ) (h2 : ∀ n τ, KX n τ → KX1 n τ) : sp_L_remove a σ K KX → sp_L_remove a σ K1 KX1 := by
  unfold sp_L_remove
  repeat' (first | exact mo_X7_remove (fun r τ => Exists.imp fun v => p_and id (p_and id (h1 _ _))) (fun n τ => p_and id (h1 _ _)) | exact id | refine Exists.imp (fun _ => ?_) | refine p_and ?_ ?_)
theorem mo_X8_remove {a : List AV} {σ : Sto} {K K1 : Option AV → Sto → Prop} {KX KX1 : Nat → Sto → Prop} (h1 : ∀ r τ, K r τ → K1 r τ) (h2 : ∀ n τ, KX n τ → KX1 n τ) : sp_X8_remove a σ K KX → sp_X8_remove a σ K1 KX1 := by
  unfold sp_X8_remove
  repeat' (first | exact id | exact h1 _ _ | exact h2 _ _ | refine p_and ?_ ?_ | refine Exists.imp (fun _ => ?_) | (intro g z; have g := g z; revert g))
theorem mo_L_setCanvas {a : List AV} {σ : Sto} {K K1 : Option AV → Sto → Prop} {KX KX1 : Nat → Sto → Prop} (h1 : ∀ r τ, K r τ → K1 r τ) (h2 : ∀ n τ, KX n τ → KX1 n τ) : sp_L_setCanvas a σ K KX → sp_L_setCanvas a σ K1 KX1 := by
  unfold sp_L_setCanvas
  repeat' (first | exact mo_X7_setCanvas (fun r τ => Exists.imp fun v => p_and id (p_and id (h1 _ _))) (fun n τ => p_and id (h1 _ _)) | exact id | refine Exists.imp (fun _ => ?_) | refine p_and ?_ ?_)
theorem mo_X8_setCanvas {a : List AV} {σ : Sto} {K K1 : Option AV → Sto → Prop} {KX KX1 : Nat → Sto → Prop} (h1 : ∀ r τ, K r τ → K1 r τ) (h2 : ∀ n τ, KX n τ → KX1 n τ) : sp_X8_setCanvas a σ K KX → sp_X8_setCanvas a σ K1 KX1 := by
  unfold sp_X8_setCanvas
  repeat' (first | exact id | exact h1 _ _ | exact h2 _ _ | refine p_and ?_ ?_ | refine Exists.imp (fun _ => ?_) | (intro g z; have g := g z; revert g))
theorem mo_L_setWays {a : List AV} {σ : Sto} {K K1 : Option AV → Sto → Prop} {KX KX1 : Nat → Sto → Prop} (h1 : ∀ r τ, K r τ → K1 r τ) (h2 : ∀ n τ, KX n τ → KX1 n τ) : sp_L_setWays a σ K KX → sp_L_setWays a σ K1 KX1 := by
  unfold sp_L_setWays
  repeat' (first | exact mo_X7_setWays (fun r τ => Exists.imp fun v => p_and id (p_and id (h1 _ _))) (fun n τ => p_and id (h1 _ _)) | exact id | refine Exists.imp (fun _ => ?_) | refine p_and ?_ ?_)
theorem mo_X8_setWays {a : List AV} {σ : Sto} {K K1 : Option AV → Sto → Prop} {KX KX1 : Nat → Sto → Prop} (h1 : ∀ r τ, K r τ → K1 r τ) (h2 : ∀ n τ, KX n τ → KX1 n τ) : sp_X8_setWays a σ K KX → sp_X8_setWays a σ K1 KX1 := by
  unfold sp_X8_setWays
  repeat' (first | exact id | exact h1 _ _ | exact h2 _ _ | refine p_and ?_ ?_ | refine Exists.imp (fun _ => ?_) | (intro g z; have g := g z; revert g))
theorem mo_L_word {a : List AV} {σ : Sto} {K K1 : Option AV → Sto → Prop} {KX KX1 : Nat → Sto → Prop} (h1 : ∀ r τ, K r τ → K1 r τ) (h2 : ∀ n τ, KX n τ → KX1 n τ) : sp_L_word a σ K KX → sp_L_word a σ K1 KX1 := by
  unfold sp_L_word
  repeat' (first | exact mo_X7_word (fun r τ => Exists.imp fun v => p_and id (p_and id (h1 _ _))) (fun n τ => p_and (fun g e => h1 _ _ (g e)) (fun g e => ⟨(g e).1, h1 _ _ (g e).2⟩)) | exact id | refine Exists.imp (fun _ => ?_) | refine p_and ?_ ?_)
theorem mo_X8_word {a : List AV} {σ : Sto} {K K1 : Option AV → Sto → Prop} {KX KX1 : Nat → Sto → Prop} (h1 : ∀ r τ, K r τ → K1 r τ) (h2 : ∀ n τ, KX n τ → KX1 n τ) : sp_X8_word a σ K KX → sp_X8_word a σ K1 KX1 := by
  unfold sp_X8_word
  repeat' (first | exact id | exact h1 _ _ | exact h2 _ _ | refine p_and ?_ ?_ | refine Exists.imp (fun _ => ?_) | (intro g z; have g := g z; revert g))
theorem mo_L_letter {a : List AV} {σ : Sto} {K K1 : Option AV → Sto → Prop} {KX KX1 : Nat → Sto → Prop} (h1 : ∀ r τ, K r τ → K1 r τ) (h2 : ∀ n τ, KX n τ → KX1 n τ) : sp_L_letter a σ K KX → sp_L_letter a σ K1 KX1 := by
  unfold sp_L_letter
  repeat' (first | exact mo_X7_letter (fun r τ => Exists.imp fun v => p_and id (p_and id (h1 _ _))) (fun n τ => p_and id (h1 _ _)) | exact id | refine Exists.imp (fun _ => ?_) | refine p_and ?_ ?_)
theorem mo_X8_letter {a : List AV} {σ : Sto} {K K1 : Option AV → Sto → Prop} {KX KX1 : Nat → Sto → Prop} (h1 : ∀ r τ, K r τ → K1 r τ) (h2 : ∀ n τ, KX n τ → KX1 n τ) : sp_X8_letter a σ K KX → sp_X8_letter a σ K1 KX1 := by
  unfold sp_X8_letter
  repeat' (first | exact id | exact h1 _ _ | exact h2 _ _ | refine p_and ?_ ?_ | refine Exists.imp (fun _ => ?_) | (intro g z; have g := g z; revert g))
theorem mo_L_value {a : List AV} {σ : Sto} {K K1 : Option AV → Sto → Prop} {KX KX1 : Nat → Sto → Prop} (h1 : ∀ r τ, K r τ → K1 r τ) (h2 : ∀ n τ, KX n τ → KX1 n τ) : sp_L_value a σ K KX → sp_L_value a σ K1 KX1 := by
  unfold sp_L_value
  repeat' (first | exact mo_X7_value (fun r τ => Exists.imp fun v => p_and id (p_and id (h1 _ _))) (fun n τ => p_and id (h1 _ _)) | exact id | refine Exists.imp (fun _ => ?_) | refine p_and ?_ ?_)
theorem mo_X8_value {a : List AV} {σ : Sto} {K K1 : Option AV → Sto → Prop} {KX KX1 : Nat → Sto → Prop} (h1 : ∀ r τ, K r τ → K1 r τ) (h2 : ∀ n τ, KX n τ → KX1 n τ) : sp_X8_value a σ K KX → sp_X8_value a σ K1 KX1 := by
  unfold sp_X8_value
  repeat' (first | exact id | exact h1 _ _ | exact h2 _ _ | refine p_and ?_ ?_ | refine Exists.imp (fun _ => ?_) | (intro g z; have g := g z; revert g))
theorem mo_X7_lay {a : List AV} {σ : Sto} {K K1 : Option AV → Sto → Prop} {KX KX1 : Nat → Sto → Prop} (h1 : ∀ r τ, K r τ → K1 r τ) (h2 : ∀ n τ, KX n τ → KX1 n τ) : sp_X7_lay a σ K KX → sp_X7_lay a σ K1 KX1 := by
  unfold sp_X7_lay
  repeat' (first | exact id | exact h1 _ _ | exact h2 _ _ | refine p_and ?_ ?_ | refine Exists.imp (fun _ => ?_) | (intro g z; have g := g z; revert g))
theorem mo_X8_lay {a : List AV} {σ : Sto} {K K1 : Option AV → Sto → Prop} {KX KX1 : Nat → Sto → Prop} (h1 : ∀ r τ, K r τ → K1 r τ) (h2 : ∀ n τ, KX n τ → KX1 n τ) : sp_X8_lay a σ K KX → sp_X8_lay a σ K1 KX1 := by
  unfold sp_X8_lay
  repeat' (first | exact id | exact h1 _ _ | exact h2 _ _ | refine p_and ?_ ?_ | refine Exists.imp (fun _ => ?_) | (intro g z; have g := g z; revert g))
theorem mo_L_place {a : List AV} {σ : Sto} {K K1 : Option AV → Sto → Prop} {KX KX1 : Nat → Sto → Prop} (h1 : ∀ r τ, K r τ → K1 r τ) (h2 : ∀ n τ, KX n τ → KX1 n τ) : sp_L_place a σ K KX → sp_L_place a σ K1 KX1 := by
  unfold sp_L_place
  repeat' (first | exact mo_X7_place (fun r τ => Exists.imp fun v => p_and id (p_and id (h1 _ _))) (fun n τ => p_and (fun g e => h1 _ _ (g e)) (fun g e => ⟨(g e).1, h1 _ _ (g e).2⟩)) | exact id | refine Exists.imp (fun _ => ?_) | refine p_and ?_ ?_)
theorem mo_X8_place {a : List AV} {σ : Sto} {K K1 : Option AV → Sto → Prop} {KX KX1 : Nat → Sto → Prop} (h1 : ∀ r τ, K r τ → K1 r τ) (h2 : ∀ n τ, KX n τ → KX1 n τ) : sp_X8_place a σ K KX → sp_X8_place a σ K1 KX1 := by
  unfold sp_X8_place
  repeat' (first | exact id | exact h1 _ _ | exact h2 _ _ | refine p_and ?_ ?_ | refine Exists.imp (fun _ => ?_) | (intro g z; have g := g z; revert g))
theorem mo_L_wordAt {a : List AV} {σ : Sto} {K K1 : Option AV → Sto → Prop} {KX KX1 : Nat → Sto → Prop} (h1 : ∀ r τ, K r τ → K1 r τ) (h2 : ∀ n τ, KX n τ → KX1 n τ) : sp_L_wordAt a σ K KX → sp_L_wordAt a σ K1 KX1 := by
  unfold sp_L_wordAt
  repeat' (first | exact mo_X7_wordAt (fun r τ => Exists.imp fun v => p_and id (p_and id (h1 _ _))) (fun n τ => p_and id (h1 _ _)) | exact id | refine Exists.imp (fun _ => ?_) | refine p_and ?_ ?_)
theorem mo_X8_wordAt {a : List AV} {σ : Sto} {K K1 : Option AV → Sto → Prop} {KX KX1 : Nat → Sto → Prop} (h1 : ∀ r τ, K r τ → K1 r τ) (h2 : ∀ n τ, KX n τ → KX1 n τ) : sp_X8_wordAt a σ K KX → sp_X8_wordAt a σ K1 KX1 := by
  unfold sp_X8_wordAt
  repeat' (first | exact id | exact h1 _ _ | exact h2 _ _ | refine p_and ?_ ?_ | refine Exists.imp (fun _ => ?_) | (intro g z; have g := g z; revert g))
theorem mo_X7_meetings {a : List AV} {σ : Sto} {K K1 : Option AV → Sto → Prop} {KX KX1 : Nat → Sto → Prop} (h1 : ∀ r τ, K r τ → K1 r τ) (h2 : ∀ n τ, KX n τ → KX1 n τ) : sp_X7_meetings a σ K KX → sp_X7_meetings a σ K1 KX1 := by
  unfold sp_X7_meetings
  repeat' (first | exact id | exact h1 _ _ | exact h2 _ _ | refine p_and ?_ ?_ | refine Exists.imp (fun _ => ?_) | (intro g z; have g := g z; revert g))
theorem mo_X8_meetings {a : List AV} {σ : Sto} {K K1 : Option AV → Sto → Prop} {KX KX1 : Nat → Sto → Prop} (h1 : ∀ r τ, K r τ → K1 r τ) (h2 : ∀ n τ, KX n τ → KX1 n τ) : sp_X8_meetings a σ K KX → sp_X8_meetings a σ K1 KX1 := by
  unfold sp_X8_meetings
  repeat' (first | exact id | exact h1 _ _ | exact h2 _ _ | refine p_and ?_ ?_ | refine Exists.imp (fun _ => ?_) | (intro g z; have g := g z; revert g))
theorem mo_L_extent {a : List AV} {σ : Sto} {K K1 : Option AV → Sto → Prop} {KX KX1 : Nat → Sto → Prop} (h1 : ∀ r τ, K r τ → K1 r τ) (h2 : ∀ n τ, KX n τ → KX1 n τ) : sp_L_extent a σ K KX → sp_L_extent a σ K1 KX1 := by
  unfold sp_L_extent
  repeat' (first | exact mo_X7_extent (fun r τ => Exists.imp fun v => p_and id (p_and id (h1 _ _))) (fun n τ => p_and id (h1 _ _)) | exact id | refine Exists.imp (fun _ => ?_) | refine p_and ?_ ?_)
theorem mo_X8_extent {a : List AV} {σ : Sto} {K K1 : Option AV → Sto → Prop} {KX KX1 : Nat → Sto → Prop} (h1 : ∀ r τ, K r τ → K1 r τ) (h2 : ∀ n τ, KX n τ → KX1 n τ) : sp_X8_extent a σ K KX → sp_X8_extent a σ K1 KX1 := by
  unfold sp_X8_extent
  repeat' (first | exact id | exact h1 _ _ | exact h2 _ _ | refine p_and ?_ ?_ | refine Exists.imp (fun _ => ?_) | (intro g z; have g := g z; revert g))
theorem mo_X7_covered {a : List AV} {σ : Sto} {K K1 : Option AV → Sto → Prop} {KX KX1 : Nat → Sto → Prop} (h1 : ∀ r τ, K r τ → K1 r τ) (h2 : ∀ n τ, KX n τ → KX1 n τ) : sp_X7_covered a σ K KX → sp_X7_covered a σ K1 KX1 := by
  unfold sp_X7_covered
  repeat' (first | exact id | exact h1 _ _ | exact h2 _ _ | refine p_and ?_ ?_ | refine Exists.imp (fun _ => ?_) | (intro g z; have g := g z; revert g))
theorem mo_X8_covered {a : List AV} {σ : Sto} {K K1 : Option AV → Sto → Prop} {KX KX1 : Nat → Sto → Prop} (h1 : ∀ r τ, K r τ → K1 r τ) (h2 : ∀ n τ, KX n τ → KX1 n τ) : sp_X8_covered a σ K KX → sp_X8_covered a σ K1 KX1 := by
  unfold sp_X8_covered
  repeat' (first | exact id | exact h1 _ _ | exact h2 _ _ | refine p_and ?_ ?_ | refine Exists.imp (fun _ => ?_) | (intro g z; have g := g z; revert g))
theorem mo_L_spread {a : List AV} {σ : Sto} {K K1 : Option AV → Sto → Prop} {KX KX1 : Nat → Sto → Prop} (h1 : ∀ r τ, K r τ → K1 r τ) (h2 : ∀ n τ, KX n τ → KX1 n τ) : sp_L_spread a σ K KX → sp_L_spread a σ K1 KX1 := by
  unfold sp_L_spread
  repeat' (first | exact mo_X7_spread (fun r τ => Exists.imp fun v => p_and id (p_and id (h1 _ _))) (fun n τ => p_and id (h1 _ _)) | exact id | refine Exists.imp (fun _ => ?_) | refine p_and ?_ ?_)
theorem mo_X8_spread {a : List AV} {σ : Sto} {K K1 : Option AV → Sto → Prop} {KX KX1 : Nat → Sto → Prop} (h1 : ∀ r τ, K r τ → K1 r τ) (h2 : ∀ n τ, KX n τ → KX1 n τ) : sp_X8_spread a σ K KX → sp_X8_spread a σ K1 KX1 := by
  unfold sp_X8_spread
  repeat' (first | exact id | exact h1 _ _ | exact h2 _ _ | refine p_and ?_ ?_ | refine Exists.imp (fun _ => ?_) | (intro g z; have g := g z; revert g))
theorem mo_L_placedOn {a : List AV} {σ : Sto} {K K1 : Option AV → Sto → Prop} {KX KX1 : Nat → Sto → Prop} (h1 : ∀ r τ, K r τ → K1 r τ) (h2 : ∀ n τ, KX n τ → KX1 n τ) : sp_L_placedOn a σ K KX → sp_L_placedOn a σ K1 KX1 := by
  unfold sp_L_placedOn
  repeat' (first | exact mo_X7_placedOn (fun r τ => Exists.imp fun v => p_and id (p_and id (h1 _ _))) (fun n τ => p_and id (h1 _ _)) | exact id | refine Exists.imp (fun _ => ?_) | refine p_and ?_ ?_)
theorem mo_X8_placedOn {a : List AV} {σ : Sto} {K K1 : Option AV → Sto → Prop} {KX KX1 : Nat → Sto → Prop} (h1 : ∀ r τ, K r τ → K1 r τ) (h2 : ∀ n τ, KX n τ → KX1 n τ) : sp_X8_placedOn a σ K KX → sp_X8_placedOn a σ K1 KX1 := by
  unfold sp_X8_placedOn
  repeat' (first | exact id | exact h1 _ _ | exact h2 _ _ | refine p_and ?_ ?_ | refine Exists.imp (fun _ => ?_) | (intro g z; have g := g z; revert g))
theorem mo_X7_narrowest {a : List AV} {σ : Sto} {K K1 : Option AV → Sto → Prop} {KX KX1 : Nat → Sto → Prop} (h1 : ∀ r τ, K r τ → K1 r τ) (h2 : ∀ n τ, KX n τ → KX1 n τ) : sp_X7_narrowest a σ K KX → sp_X7_narrowest a σ K1 KX1 := by
  unfold sp_X7_narrowest
  repeat' (first | exact id | exact h1 _ _ | exact h2 _ _ | refine p_and ?_ ?_ | refine Exists.imp (fun _ => ?_) | (intro g z; have g := g z; revert g))
theorem mo_X8_narrowest {a : List AV} {σ : Sto} {K K1 : Option AV → Sto → Prop} {KX KX1 : Nat → Sto → Prop} (h1 : ∀ r τ, K r τ → K1 r τ) (h2 : ∀ n τ, KX n τ → KX1 n τ) : sp_X8_narrowest a σ K KX → sp_X8_narrowest a σ K1 KX1 := by
  unfold sp_X8_narrowest
  repeat' (first | exact id | exact h1 _ _ | exact h2 _ _ | refine p_and ?_ ?_ | refine Exists.imp (fun _ => ?_) | (intro g z; have g := g z; revert g))
theorem mo_L_movedBy {a : List AV} {σ : Sto} {K K1 : Option AV → Sto → Prop} {KX KX1 : Nat → Sto → Prop} (h1 : ∀ r τ, K r τ → K1 r τ) (h2 : ∀ n τ, KX n τ → KX1 n τ) : sp_L_movedBy a σ K KX → sp_L_movedBy a σ K1 KX1 := by
  unfold sp_L_movedBy
  repeat' (first | exact mo_X7_movedBy (fun r τ => Exists.imp fun v => p_and id (p_and id (h1 _ _))) (fun n τ => p_and (fun g e => h1 _ _ (g e)) (fun g e => ⟨(g e).1, h1 _ _ (g e).2⟩)) | exact id | refine Exists.imp (fun _ => ?_) | refine p_and ?_ ?_)
theorem mo_X8_movedBy {a : List AV} {σ : Sto} {K K1 : Option AV → Sto → Prop} {KX KX1 : Nat → Sto → Prop} (h1 : ∀ r τ, K r τ → K1 r τ) (h2 : ∀ n τ, KX n τ → KX1 n τ) : sp_X8_movedBy a σ K KX → sp_X8_movedBy a σ K1 KX1 := by
  unfold sp_X8_movedBy
  repeat' (first | exact id | exact h1 _ _ | exact h2 _ _ | refine p_and ?_ ?_ | refine Exists.imp (fun _ => ?_) | (intro g z; have g := g z; revert g))
theorem mo_X7_bestStride {a : List AV} {σ : Sto} {K K1 : Option AV → Sto → Prop} {KX KX1 : Nat → Sto → Prop} (h1 : ∀ r τ, K r τ → K1 r τ) (h2 : ∀ n τ, KX n τ → KX1 n τ) : sp_X7_bestStride a σ K KX → sp_X7_bestStride a σ K1 KX1 := by
  unfold sp_X7_bestStride
  repeat' (first | exact id | exact h1 _ _ | exact h2 _ _ | refine p_and ?_ ?_ | refine Exists.imp (fun _ => ?_) | (intro g z; have g := g z; revert g))
theorem mo_X8_bestStride {a : List AV} {σ : Sto} {K K1 : Option AV → Sto → Prop} {KX KX1 : Nat → Sto → Prop} (h1 : ∀ r τ, K r τ → K1 r τ) (h2 : ∀ n τ, KX n τ → KX1 n τ) : sp_X8_bestStride a σ K KX → sp_X8_bestStride a σ K1 KX1 := by
  unfold sp_X8_bestStride
  repeat' (first | exact id | exact h1 _ _ | exact h2 _ _ | refine p_and ?_ ?_ | refine Exists.imp (fun _ => ?_) | (intro g z; have g := g z; revert g))
theorem mo_L_undo {a : List AV} {σ : Sto} {K K1 : Option AV → Sto → Prop} {KX KX1 : Nat → Sto → Prop} (h1 : ∀ r τ, K r τ → K1 r τ) (h2 : ∀ n τ, KX n τ → KX1 n τ) : sp_L_undo a σ K KX → sp_L_undo a σ K1 KX1 := by
  unfold sp_L_undo
  repeat' (first | exact mo_X7_undo (fun r τ => Exists.imp fun v => p_and id (p_and id (h1 _ _))) (fun n τ => p_and id (h1 _ _)) | exact id | refine Exists.imp (fun _ => ?_) | refine p_and ?_ ?_)
theorem mo_X8_undo {a : List AV} {σ : Sto} {K K1 : Option AV → Sto → Prop} {KX KX1 : Nat → Sto → Prop} (h1 : ∀ r τ, K r τ → K1 r τ) (h2 : ∀ n τ, KX n τ → KX1 n τ) : sp_X8_undo a σ K KX → sp_X8_undo a σ K1 KX1 := by
  unfold sp_X8_undo
  repeat' (first | exact id | exact h1 _ _ | exact h2 _ _ | refine p_and ?_ ?_ | refine Exists.imp (fun _ => ?_) | (intro g z; have g := g z; revert g))
theorem mo_X7_digest {a : List AV} {σ : Sto} {K K1 : Option AV → Sto → Prop} {KX KX1 : Nat → Sto → Prop} (h1 : ∀ r τ, K r τ → K1 r τ) (h2 : ∀ n τ, KX n τ → KX1 n τ) : sp_X7_digest a σ K KX → sp_X7_digest a σ K1 KX1 := by
  unfold sp_X7_digest
  repeat' (first | exact id | exact h1 _ _ | exact h2 _ _ | refine p_and ?_ ?_ | refine Exists.imp (fun _ => ?_) | (intro g z; have g := g z; revert g))
theorem mo_X8_digest {a : List AV} {σ : Sto} {K K1 : Option AV → Sto → Prop} {KX KX1 : Nat → Sto → Prop} (h1 : ∀ r τ, K r τ → K1 r τ) (h2 : ∀ n τ, KX n τ → KX1 n τ) : sp_X8_digest a σ K KX → sp_X8_digest a σ K1 KX1 := by
  unfold sp_X8_digest
  repeat' (first | exact id | exact h1 _ _ | exact h2 _ _ | refine p_and ?_ ?_ | refine Exists.imp (fun _ => ?_) | (intro g z; have g := g z; revert g))
