def bm_zl : List (String × String × String × Value) := [("BrowArmy$Word", "MAN", "LBrowArmy$Word;", .ref 1000),
  ("BrowArmy$Word", "ORDER", "LBrowArmy$Word;", .ref 1001),
  ("BrowArmy$Word", "FOE", "LBrowArmy$Word;", .ref 1002),
  ("BrowArmy$Word", "CLEAR", "LBrowArmy$Word;", .ref 1003),
  ("BrowArmy$Word", "RAIN", "LBrowArmy$Word;", .ref 1004),
  ("BrowArmy$Word", "LEFT", "LBrowArmy$Word;", .ref 1005),
  ("BrowArmy$Word", "RIGHT", "LBrowArmy$Word;", .ref 1006),
  ("BrowArmy$Word", "BOTH", "LBrowArmy$Word;", .ref 1007),
  ("BrowArmy$Word", "LIFTS", "LBrowArmy$Word;", .ref 1008),
  ("BrowArmy$Word", "GIVES", "LBrowArmy$Word;", .ref 1009),
  ("BrowArmy$Word", "SLEEPS", "LBrowArmy$Word;", .ref 1010),
  ("BrowArmy$Word", "WAKES", "LBrowArmy$Word;", .ref 1011),
  ("BrowArmy$Word", "SOOTS", "LBrowArmy$Word;", .ref 1012),
  ("BrowArmy$Word", "GOES", "LBrowArmy$Word;", .ref 1013),
  ("BrowArmy$Word", "HOUR", "LBrowArmy$Word;", .ref 1014),
  ("BrowArmy$Word", "EAST", "LBrowArmy$Word;", .ref 1015),
  ("BrowArmy$Word", "SOUTH", "LBrowArmy$Word;", .ref 1016),
  ("BrowArmy$Word", "WEST", "LBrowArmy$Word;", .ref 1017),
  ("BrowArmy$Word", "NORTH", "LBrowArmy$Word;", .ref 1018),
  ("BrowArmy$Word", "OR", "LBrowArmy$Word;", .ref 1019),
  ("BrowArmy$Word", "AND", "LBrowArmy$Word;", .ref 1020),
  ("BrowArmy$Word", "NOT", "LBrowArmy$Word;", .ref 1021),
  ("BrowArmy$Word", "ASLEEP", "LBrowArmy$Word;", .ref 1022),
  ("BrowArmy$Word", "SOOTED", "LBrowArmy$Word;", .ref 1023),
  ("BrowArmy$Word", "JOINED", "LBrowArmy$Word;", .ref 1024),
  ("BrowArmy$Word", "GREY", "LBrowArmy$Word;", .ref 1025),
  ("BrowArmy$Word", "IDLE", "LBrowArmy$Word;", .ref 1026),
  ("BrowArmy$Word", "UNDER", "LBrowArmy$Word;", .ref 1027),
  ("BrowArmy$Word", "SEES", "LBrowArmy$Word;", .ref 1028),
  ("BrowArmy$Word", "HAS", "LBrowArmy$Word;", .ref 1029),
  ("BrowArmy$Word", "BROW", "LBrowArmy$Word;", .ref 1030),
  ("BrowArmy$Word", "HEARD", "LBrowArmy$Word;", .ref 1031),
  ("BrowArmy$Word", "LOST", "LBrowArmy$Word;", .ref 1032),
  ("BrowArmy$Word", "COUNT", "LBrowArmy$Word;", .ref 1033),
  ("BrowArmy$Word", "ALL", "[LBrowArmy$Word;", .ref 1100),
  ("java/lang/String", "COMPACT_STRINGS", "Z", .int 1)]
def bm_ol : List (String × Nat) := ((List.range 34).map (fun i => ("BrowArmy$Word", 1000 + i))) ++ ((List.range 34).map (fun i => ("java/lang/String", 1200 + i))) ++ ((List.range 4).map (fun i => ("java/lang/String", 1240 + i)))
def bm_wsort : List Int32 := [0, 0, 0, 0, 0, 1, 1, 1, 3, 3, 3, 3, 3, 3, 0, 2, 2, 2, 2, 0, 0, 0, 4, 4, 4, 4, 4, 5, 5, 6, 7, 7, 7, 7]
def bm_wnum : List Int32 := [0, 0, 0, 0, 0, 1, 2, 3, 0, 1, 2, 3, 4, 5, 6, 0, 1, 2, 3, 0, 0, 0, 0, 0, 0, 0, 0, 0, 0, 0, 0, 0, 0, 0]
def bm_wpack : List Int64 := [13358, 16322738, 6629, 3544114, 591150, 398548, 19176724, 81544, 12884627, 7657651, 650286611, 24161459, 20430483, 244915, 278194, 165492, 20436616, 759412, 15190664, 498, 1476, 14836, 53875888, 653775012, 351582372, 247993, 299397, 22483122, 627891, 8243, 84471, 8554052, 409204, 492210354]
def bm_xl : List (Nat × String × String × String × Value) := ((List.range 34).map (fun i => (1000 + i, "BrowArmy$Word", "sort", "I", .int (bm_wsort.getD i 0))))
  ++ ((List.range 34).map (fun i => (1000 + i, "BrowArmy$Word", "number", "I", .int (bm_wnum.getD i 0))))
  ++ ((List.range 34).map (fun i => (1000 + i, "BrowArmy$Word", "packed", "J", .long (bm_wpack.getD i 0))))
  ++ ((List.range 34).map (fun i => (1000 + i, "BrowArmy$Word", "text", "Ljava/lang/String;", .ref (1200 + i))))
  ++ ((List.range 44).map (fun i => (1200 + i, "java/lang/String", "coder", "B", .int 0)))
  ++ ((List.range 44).map (fun i => (1200 + i, "java/lang/String", "value", "[B", .ref (1300 + i))))
def bm_str : List (List Int32) := [[109, 97, 110], [111, 114, 100, 101, 114], [102, 111, 101], [99, 108, 101, 97, 114], [114, 97, 105, 110], [108, 101, 102, 116], [114, 105, 103, 104, 116], [98, 111, 116, 104], [108, 105, 102, 116, 115], [103, 105, 118, 101, 115], [115, 108, 101, 101, 112, 115], [119, 97, 107, 101, 115], [115, 111, 111, 116, 115], [103, 111, 101, 115], [104, 111, 117, 114], [101, 97, 115, 116], [115, 111, 117, 116, 104], [119, 101, 115, 116], [110, 111, 114, 116, 104], [111, 114], [97, 110, 100], [110, 111, 116], [97, 115, 108, 101, 101, 112], [115, 111, 111, 116, 101, 100], [106, 111, 105, 110, 101, 100], [103, 114, 101, 121], [105, 100, 108, 101], [117, 110, 100, 101, 114], [115, 101, 101, 115], [104, 97, 115], [98, 114, 111, 119], [104, 101, 97, 114, 100], [108, 111, 115, 116], [110, 117, 109, 98, 101, 114], [109, 97, 110], [109, 97, 110], [109, 97, 110], [109, 97, 110], [109, 97, 110], [109, 97, 110], [32, 105, 100, 108, 101], [32, 104, 97, 115, 32], [32, 104, 101, 97, 114, 100, 32], [32, 97, 115, 108, 101, 101, 112]]
def bm_tl : List (Nat × FieldType × Nat × (Nat → Value)) := (1100, .object "BrowArmy$Word", 34, fun j => .ref (1000 + j)) :: ((List.range 44).map (fun i => (1300 + i, .byte, (bm_str.getD i []).length, fun j => .int ((bm_str.getD i []).getD j 0))))
def bm_rl : List (String × Nat × String × Nat) := [("BrowArmy$Report", 38, " idle", 1240), ("BrowArmy$Report", 44, " has ", 1241), ("BrowArmy$Report", 52, " heard ", 1242), ("BrowArmy$Report", 65, " asleep", 1243)]
/-- what stands outside the world and is never written: sc is the law's script -/
abbrev bm_L : Type := Launch × Nat × (Nat → Int32)
def bm_G (sc : Nat × (Nat → Int32)) (ζ : Nat → Nat) (A : Nat → Prop) (U : State) (H : Heap) : Prop :=
  (∀ w ∈ bm_nl, va_Nw w U) ∧ (∀ C ∈ ["BrowArmy$Word", "BrowArmy$State", "BrowArmy$Image"], va_AO C U) ∧ (∀ q ∈ bm_zl, va_Z q.1 q.2.1 q.2.2.1 (bm_re ζ q.2.2.2) A U H) ∧ (∀ q ∈ bm_ol, va_O q.1 (ζ q.2) A U H)
  ∧ (∀ q ∈ bm_xl, va_OF q.2.1 q.2.2.1 q.2.2.2.1 (bm_re ζ q.2.2.2.2) (ζ q.1) A U H) ∧ (∀ q ∈ bm_tl, va_T q.2.1 (ζ q.1) q.2.2.1 (fun j => bm_re ζ (q.2.2.2 j)) A U H) ∧ (∀ q ∈ bm_rl, vk_R q.1 q.2.1 q.2.2.1 (ζ q.2.2.2) U)
  ∧ (∀ i j, i < 34 → j < 34 → ζ (1000 + i) = ζ (1000 + j) → i = j) ∧ va_T .int (ζ 1400) sc.1 (fun j => .int (sc.2 j)) A U H
  ∧ (va_Z "jdk/internal/util/Preconditions" "SIOOBE_FORMATTER" "Ljava/util/function/BiFunction;" (.ref (ζ 1500)) A U H ∨ va_Z "jdk/internal/util/Preconditions" "SIOOBE_FORMATTER" "Ljava/util/function/BiFunction;" .null A U H)
theorem bm_nl_link : ∀ w ∈ bm_nl, ∃ (a : String) (i : Nat) (x : MethodName) (h : String), w = .methodLinkNest a i x h := by
  simp only [bm_nl, List.forall_mem_cons]
  refine ⟨⟨_, _, _, _, rfl⟩, ⟨_, _, _, _, rfl⟩, ⟨_, _, _, _, rfl⟩, ⟨_, _, _, _, rfl⟩, ⟨_, _, _, _, rfl⟩, ⟨_, _, _, _, rfl⟩, ⟨_, _, _, _, rfl⟩, ⟨_, _, _, _, rfl⟩, ⟨_, _, _, _, rfl⟩, ⟨_, _, _, _, rfl⟩, ⟨_, _, _, _, rfl⟩, ⟨_, _, _, _, rfl⟩, ⟨_, _, _, _, rfl⟩, ?_⟩
  intro w h
  cases h
theorem bm_G.warm {sc : Nat × (Nat → Int32)} {ζ : Nat → Nat} {A : Nat → Prop} {s U : State} {H : Heap} (hW : s.WarmedH U.vm) (h : bm_G sc ζ A s H) : bm_G sc ζ A U H := by
  obtain ⟨h1, h2, h3, h4, h5, h6, h7, h8, h9, h10⟩ := h
  refine ⟨fun w hw => ?_, fun C hC => va_AO.moved hW.alike (h2 C hC), fun q hq => va_Z.moved hW.alike (h3 q hq), fun q hq => va_O.moved hW.alike (h4 q hq), fun q hq => va_OF.moved hW.alike (h5 q hq), fun q hq => va_T.moved hW.alike (h6 q hq), fun q hq => vk_R.warm hW (h7 q hq), h8, va_T.moved hW.alike h9, h10.elim (fun q => Or.inl (va_Z.moved hW.alike q)) (fun q => Or.inr (va_Z.moved hW.alike q))⟩
  have h0 := h1 w hw
  obtain ⟨a, i, x, h, rfl⟩ := bm_nl_link w hw
  exact va_Nw.warmM hW h0
theorem bm_G.kept {sc : Nat × (Nat → Int32)} {ζ : Nat → Nat} {A : Nat → Prop} {U : State} {H H1 : Heap} (h : bm_G sc ζ A U H) (hq : ∀ a : Nat, a < H.size → ¬ A a → H1[a]? = H[a]?) : bm_G sc ζ A U H1 := by
  obtain ⟨h1, h2, h3, h4, h5, h6, h7, h8, h9, h10⟩ := h
  exact ⟨h1, h2, fun q h => (h3 q h).kept hq, fun q h => (h4 q h).kept hq, fun q h => (h5 q h).kept hq, fun q h => (h6 q h).kept hq, h7, h8, h9.kept hq, h10.elim (fun q => Or.inl (q.kept hq)) (fun q => Or.inr (q.kept hq))⟩
theorem bm_G.narrow {sc : Nat × (Nat → Int32)} {ζ : Nat → Nat} {A B : Nat → Prop} {U : State} {H : Heap} (h : bm_G sc ζ A U H) (hAB : ∀ q, B q → A q) : bm_G sc ζ B U H := by
  obtain ⟨h1, h2, h3, h4, h5, h6, h7, h8, h9, h10⟩ := h
  exact ⟨h1, h2, fun q h => (h3 q h).narrow hAB, fun q h => (h4 q h).narrow hAB, fun q h => (h5 q h).narrow hAB, fun q h => (h6 q h).narrow hAB, h7, h8, h9.narrow hAB, h10.elim (fun q => Or.inl (q.narrow hAB)) (fun q => Or.inr (q.narrow hAB))⟩
/-- room for d frames, and for the cells from n0 to nE -/
def bm_rm (d n0 nE : Nat) : Room := { frames := d, cells := nE - n0, slots := bm_sl nE - bm_sl n0, locals := 64 * d }
def bm_Q (D : va_G) (cA : Nat → ClassId) (A : Nat → Prop) (ζ α0 : Nat → Nat) (n0 nE : Nat) (Q : Option Value → bm_M → Prop) : Array Value → State → Outcome → State → Prop := fun _ st oc t =>
  (∃ (α : Nat → Nat) (r : Option Value) (M : bm_M), (∀ k, (k < n0 ∨ nE ≤ k) → α k = α0 k) ∧ (∀ k, 1000 ≤ k → α k = ζ k) ∧ Q r M ∧ oc = .returned (r.map (bm_re α)) ∧ va_P D vwCl (bm_ws cA α nE M) t.heap ∧ va_D A (bm_ws cA α nE M)) ∧ va_F A st t
def bm_F (L : bm_L) (mi : bm_I) (D : va_G) (cA : Nat → ClassId) (A : Nat → Prop) (ζ : Nat → Nat) (p : Program) (s : State) (m : MethodId) (args : Array Value) (meth : Method) (c : Code) : Prop :=
  p.tables.exec = Jvm.exec ∧ c.code = mi.2.1 ∧ c.maxLocals = mi.2.2.1 ∧ s.vm.findClass mi.1.cls = some m.cls ∧ (∀ w ∈ bm_T, w.before args s = true) ∧ meth.sig.returnType = mi.2.2.2 ∧ meth.locks = false ∧ meth.name = mi.1.name ∧ va_K D vwCl (bm_tys cA) s ∧ (∀ q, s.heap.size ≤ q → A q) ∧ bm_G L.2 ζ A s s.heap
/-- the machine stands in method mi at pc, locals ls, operands st, memory M of n cells (n0 at its entry, nE at its end): it ends, and Q -/
def bm_V (L : bm_L) (mi : bm_I) (d n0 nE n pc : Nat) (ls : List (Nat × Value)) (st : List Value) (M : bm_M) (Q : Option Value → bm_M → Prop) : Prop :=
  n0 ≤ n → ∀ (p : Program) (e : Env) (s : State) (m : MethodId) (args : Array Value) (below : List Frame) (meth : Method) (c : Code) (D : va_G) (cA : Nat → ClassId) (A : Nat → Prop) (ζ α0 : Nat → Nat), bm_F L mi D cA A ζ p s m args meth c →
    ∀ (α : Nat → Nat) (H : Heap) (locs : List Loc) (lsA : Array Slot), (∀ k, (k < n0 ∨ n ≤ k) → α k = α0 k) → (∀ k, 1000 ≤ k → α k = ζ k) → va_P D vwCl (bm_ws cA α n M) H → va_D A (bm_ws cA α n M) → va_S A s.heap H locs → lv_has lsA mi.2.2.1 (bm_ls α ls) →
    W p L.1 e (bm_rm d n0 nE) s m args below meth c H locs (n - n0) (bm_sl n - bm_sl n0) (MQ below (bm_Q D cA A ζ α0 n0 nE Q) args s (nE - n0) (bm_sl nE - bm_sl n0) A) (F0 m pc lsA (st.map (bm_re α)))
/-- a method's contract at these arguments and this memory -/
def bm_C (L : bm_L) (mi : bm_I) (d n0 nE : Nat) (as : List Value) (M : bm_M) (Q : Option Value → bm_M → Prop) : Prop :=
  ∀ (D : va_G) (cA : Nat → ClassId) (ζ α : Nat → Nat) (sz : Nat), (∀ k, 1000 ≤ k → α k = ζ k) → Met L.1 mi.1 (bm_w mi) (bm_rm d n0 nE) (va_Pc (as.map (bm_re α)) (fun U => U.heap.size = sz ∧ va_P D vwCl (bm_ws cA α n0 M) U.heap ∧ va_K D vwCl (bm_tys cA) U ∧ va_D (fun _ => True) (bm_ws cA α n0 M) ∧ bm_G L.2 ζ (va_A (bm_ws cA α n0 M) sz) U U.heap))
    (bm_Q D cA (va_A (bm_ws cA α n0 M) sz) ζ α n0 nE Q) (nE - n0) (bm_sl nE - bm_sl n0) (va_A (bm_ws cA α n0 M) sz)
/-- locals at a method's entry -/
def bm_en : Nat → List Value → List (Nat × Value)
  | _, [] => []
  | i, v :: t => (i, v) :: bm_en (if v.category = 2 then i + 2 else i + 1) t
theorem bm_en_ls (α : Nat → Nat) : ∀ (vs : List Value) (i : Nat), lv_args i (vs.map (bm_re α)) = bm_ls α (bm_en i vs)
  | [], _ => rfl
  | v :: t, i => by
    simp only [List.map, lv_args, bm_en, bm_ls, List.map_cons]
    rw [bm_re_cat, bm_en_ls α t]
    rfl
theorem bm_sl_len (α : Nat → Nat) : ∀ (vs : List Value), (lg_sl (vs.map (bm_re α))).length = (lg_sl vs).length
  | [] => rfl
  | v :: t => by
    have h := bm_sl_len α t
    simp only [lg_sl, List.map_cons, List.flatMap_cons, List.length_append, bm_re_cat] at h ⊢
    rw [h]
    congr 1
    split <;> rfl
theorem bm_C.ofV {L : bm_L} {mi : bm_I} {d n0 nE : Nat} {as : List Value} {M : bm_M} {Q : Option Value → bm_M → Prop} (hy : plainName mi.1.cls = true) (hn : (lg_sl as).length ≤ mi.2.2.1) (h : bm_V L mi d n0 nE n0 0 (bm_en 0 as) [] M Q) : bm_C L mi d n0 nE as M Q := by
  intro D cA ζ α sz hζ
  refine Met.ofW (cc := mi.2.1) (maxL := mi.2.2.1) (ret := mi.2.2.2) hy rfl ?_
  intro p e s m args below meth c s₁ B hml hv
  obtain ⟨rfl, hsz, hP, hK, hD0, hG⟩ := hv
  subst hsz
  have hts : ∀ w ∈ bm_w mi, w.before _ s = true := atoms_spec (ws := bm_w mi) B.pre
  have hl := lv_entry (as.map (bm_re α)) (n := mi.2.2.1) (by rw [bm_sl_len]; exact hn)
  rw [bm_en_ls] at hl
  rw [lg_entry_eq]
  have hF : bm_F L mi D cA (va_A (bm_ws cA α n0 M) s.heap.size) ζ p s m (as.map (bm_re α)).toArray meth c := ⟨B.exec, B.bytes, hml, findClass_of_methodNamed B.named, fun w hw => hts w (List.mem_cons_of_mem _ hw), B.returns, B.notSynchronized, (name_of_methodNamed B.named B.method).1, hK, fun q hq => Or.inr hq, hG⟩
  have h1 := h (Nat.le_refl _) p e s m (as.map (bm_re α)).toArray below meth c D cA _ ζ α hF α s.heap [] _ (fun _ _ => rfl) hζ hP (hD0.self (sz := s.heap.size)) va_S.rf hl
  rw [Nat.sub_self, Nat.sub_self] at h1
  exact h1

