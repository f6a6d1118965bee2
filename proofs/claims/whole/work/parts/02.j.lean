/-! the judgement jx: a walk of one method over a world of cells, all that does not change bound in k -/
abbrev jK : Type := Program × Launch × Env × Room × State × MethodId × Array Value × List Frame × Method × Code × (State → Prop)
/-- what is fixed for all: the classes' places, the array classes (int, long, boolean, Sheet), the four tables' addresses (AT_FIRST, LOWEST, HIGHEST, BETTER_BY) -/
abbrev jG : Type := va_G × (ClassId × ClassId × ClassId × ClassId) × (Nat × Nat × Nat × Nat)
def jty (G : jG) : List (ClassId × FieldType) := [(G.2.1.1, .int), (G.2.1.2.1, .long), (G.2.1.2.2.1, .boolean), (G.2.1.2.2.2, .object RX2)]
abbrev jai (G : jG) (a n : Nat) (f : Nat → Int32) : Nat × va_E := (a, .inl (G.2.1.1, n, .inl f))
abbrev jaj (G : jG) (a n : Nat) (f : Nat → Int64) : Nat × va_E := (a, .inl (G.2.1.2.1, n, .inr (.inl f)))
abbrev jaz (G : jG) (a n : Nat) (f : Nat → Int32) : Nat × va_E := (a, .inl (G.2.1.2.2.1, n, .inl f))
abbrev jaq (G : jG) (a n : Nat) (f : Nat → Option Nat) : Nat × va_E := (a, .inl (G.2.1.2.2.2, n, .inr (.inr (.inr (.inr f)))))
abbrev job (a c : Nat) (fs : List Value) : Nat × va_E := (a, .inr (c, fs))
def jnest : List Cond := [.fieldLinkNest RX1 15 "InkSwaths" "AT_FIRST" "[I" "InkSwaths", .fieldLinkNest RX3 72 "InkSwaths$Plan" "picture" "[I" "InkSwaths", .fieldLinkNest RX3 82 "InkSwaths$Plan" "head" "[I" "InkSwaths", .fieldLinkNest RX3 96 "InkSwaths$Plan" "living" "[I" "InkSwaths", .fieldLinkNest RX3 122 "InkSwaths$Plan" "hitCount" "[I" "InkSwaths", .fieldLinkNest RX3 131 "InkSwaths$Plan" "printingHit" "[I" "InkSwaths", .fieldLinkNest RX3 137 "InkSwaths$Plan" "missedDots" "[I" "InkSwaths", .fieldLinkNest RX3 140 "InkSwaths$Plan" "lastPass" "[I" "InkSwaths", .fieldLinkNest RX3 146 "InkSwaths$Plan" "dotsPrinted" "[I" "InkSwaths", .fieldLinkNest RX3 149 "InkSwaths$Plan" "gutter" "[I" "InkSwaths", .fieldLinkNest RX3 158 "InkSwaths$Plan" "strayed" "I" "InkSwaths", .fieldLinkNest RX3 85 "InkSwaths$Events" "size" "I" "InkSwaths", .fieldLinkNest RX3 119 "InkSwaths$Sheet" "items" "[I" "InkSwaths", .fieldLinkNest RX3 231 "InkSwaths$Sheet" "form" "I" "InkSwaths", .fieldLinkNest RX3 112 "InkSwaths$Sheet" "size" "I" "InkSwaths", .fieldLinkNest RX3 104 "InkSwaths$Sheet" "lost" "Z" "InkSwaths", .methodLinkNest RX3 15 yX1_init "InkSwaths", .methodLinkNest RX3 25 yX0_init "InkSwaths", .methodLinkNest RX3 53 yX2_init "InkSwaths", .methodLinkNest RX3 61 yX1_print "InkSwaths", .methodLinkNest RX1 86 yX3_isLine "InkSwaths", .methodLinkNest RX3 88 yX0_add "InkSwaths", .methodLinkNest RX3 92 yX0_all "InkSwaths", .methodLinkNest RX3 97 yX0_livingBy "InkSwaths", .methodLinkNest RX3 125 yX1_passOf "InkSwaths", .methodLinkNest RX3 128 yX1_nozzleOf "InkSwaths", .methodLinkNest RX3 134 yX1_wantedHit "InkSwaths", .methodLinkNest RX3 152 yX1_allDots "InkSwaths", .methodLinkNest RX3 155 yX1_allMissed "InkSwaths", .methodLinkNest RX3 161 yX1_gutterDrops "InkSwaths", .methodLinkNest RX3 164 yX1_fewestMissed "InkSwaths", .methodLinkNest RX3 168 yX1_dropsOf "InkSwaths", .methodLinkNest RX3 174 yX1_openLines "InkSwaths", .methodLinkNest RX3 181 yX1_takeInputs "InkSwaths", .methodLinkNest RX3 221 yX2_begin "InkSwaths", .methodLinkNest RX3 225 yX2_faultOf "InkSwaths", .methodLinkNest RX3 228 yX2_fill "InkSwaths", .methodLinkNest RX3 234 yX2_hasPart "InkSwaths", .methodLinkNest RX3 247 yX1_allHits "InkSwaths", .castable "[I" "java/lang/Cloneable"]
def jisn : Cond → Bool
  | .fieldLinkNest _ _ _ _ _ _ => true
  | .methodLinkNest _ _ _ _ => true
  | .castable _ _ => true
  | _ => false
theorem jisn_warm {w : Cond} {s U : State} (h : jisn w = true) (hW : s.WarmedH U.vm) (hZ : va_Nw w s) : va_Nw w U := by
  cases w <;> first | exact va_Nw.warmF hW hZ | exact va_Nw.warmM hW hZ | exact va_Nw.warmC hW hZ | (simp [jisn] at h; done)
theorem jisn_same {w : Cond} {u U : State} (h : jisn w = true) (hv : u.vm = U.vm) (hZ : va_Nw w u) : va_Nw w U := by
  cases w <;> first | exact va_Nw.same rfl hv hZ | (simp [jisn] at h; done)
theorem jnest_all : jnest.all jisn = true := by decide +kernel
def jtF (j : Nat) : Int32 := match j with | 0 => 4 | 1 => 3 | 2 => 4 | 3 => 8 | 4 => -9 | 5 => 8 | 6 => 3 | _ => 0
def jtL (j : Nat) : Int32 := match j with | 0 => 1 | 1 => 1 | 2 => 1 | 3 => 1 | 4 => -20 | 5 => 1 | 6 => 1 | _ => 0
def jtH (j : Nat) : Int32 := match j with | 0 => 8 | 1 => 5 | 2 => 12 | 3 => 12 | 4 => 0 | 5 => 8 | 6 => 6 | _ => 3
def jtB (j : Nat) : Int32 := match j with | 0 => 2 | 1 => 8 | _ => 4
def jst (T : Nat × Nat × Nat × Nat) (A : Nat → Prop) (U : State) (H : Heap) : Prop :=
  (va_Z "InkSwaths" "AT_FIRST" "[I" (.ref T.1) A U H ∧ va_T .int T.1 9 (fun j => .int (jtF j)) A U H) ∧
  (va_Z "InkSwaths" "LOWEST" "[I" (.ref T.2.1) A U H ∧ va_T .int T.2.1 9 (fun j => .int (jtL j)) A U H) ∧
  (va_Z "InkSwaths" "HIGHEST" "[I" (.ref T.2.2.1) A U H ∧ va_T .int T.2.2.1 9 (fun j => .int (jtH j)) A U H) ∧
  (va_Z "InkSwaths" "BETTER_BY" "[I" (.ref T.2.2.2) A U H ∧ va_T .int T.2.2.2 3 (fun j => .int (jtB j)) A U H)
theorem jst.moved {T : Nat × Nat × Nat × Nat} {A : Nat → Prop} {u U : State} {H : Heap} (hvm : u.vm.Alike U.vm) (h : jst T A u H) : jst T A U H := by
  obtain ⟨⟨a1, a2⟩, ⟨b1, b2⟩, ⟨c1, c2⟩, d1, d2⟩ := h
  exact ⟨⟨a1.moved hvm, a2.moved hvm⟩, ⟨b1.moved hvm, b2.moved hvm⟩, ⟨c1.moved hvm, c2.moved hvm⟩, d1.moved hvm, d2.moved hvm⟩
theorem jst.kept {T : Nat × Nat × Nat × Nat} {A : Nat → Prop} {U : State} {H H1 : Heap} (h : jst T A U H) (hq : ∀ a : Nat, a < H.size → ¬ A a → H1[a]? = H[a]?) : jst T A U H1 := by
  obtain ⟨⟨a1, a2⟩, ⟨b1, b2⟩, ⟨c1, c2⟩, d1, d2⟩ := h
  exact ⟨⟨a1.kept hq, a2.kept hq⟩, ⟨b1.kept hq, b2.kept hq⟩, ⟨c1.kept hq, c2.kept hq⟩, d1.kept hq, d2.kept hq⟩
theorem jst.narrow {T : Nat × Nat × Nat × Nat} {A B : Nat → Prop} {U : State} {H : Heap} (h : jst T A U H) (hAB : ∀ q, B q → A q) : jst T B U H := by
  obtain ⟨⟨a1, a2⟩, ⟨b1, b2⟩, ⟨c1, c2⟩, d1, d2⟩ := h
  exact ⟨⟨a1.narrow hAB, a2.narrow hAB⟩, ⟨b1.narrow hAB, b2.narrow hAB⟩, ⟨c1.narrow hAB, c2.narrow hAB⟩, d1.narrow hAB, d2.narrow hAB⟩
/-- what a method takes as given of the launch: nest mates' links, the tables -/
def jxT (c0 : ClassId) (t : Nat) (A : Nat → Prop) (H : Heap) : Prop := ∃ cell : Cell, H[t]? = some cell ∧ cell.cls = c0 ∧ cell.vm ≠ .unknown ∧ cell.vm.isStatics = false ∧ cell.slots = (arrV c0 9 (fun j => .int (jtF j))).slots ∧ ¬ A t
def jev (G : jG) (A : Nat → Prop) (U : State) (H : Heap) : Prop := (∀ w ∈ jnest, va_Nw w U) ∧ (va_AO RX2 U ∧ jxT G.2.1.1 G.2.2.1 A H) ∧ jst G.2.2 A U H
theorem jev.warm {G : jG} {A : Nat → Prop} {s U : State} {H : Heap} (hW : s.WarmedH U.vm) (h : jev G A s H) : jev G A U H :=
  ⟨fun w hw => jisn_warm (List.all_eq_true.mp jnest_all w hw) hW (h.1 w hw), ⟨h.2.1.1.moved hW.alike, h.2.1.2⟩, h.2.2.moved hW.alike⟩
theorem jev.same {G : jG} {A : Nat → Prop} {u U : State} {H : Heap} (hv : u.vm = U.vm) (h : jev G A u H) : jev G A U H :=
  ⟨fun w hw => jisn_same (List.all_eq_true.mp jnest_all w hw) hv (h.1 w hw), ⟨h.2.1.1.moved (hv ▸ Vm.Alike.refl u.vm), h.2.1.2⟩, h.2.2.moved (hv ▸ Vm.Alike.refl u.vm)⟩
theorem jev.kept {G : jG} {A : Nat → Prop} {U : State} {H H1 : Heap} (h : jev G A U H) (hq : ∀ a : Nat, a < H.size → ¬ A a → H1[a]? = H[a]?) : jev G A U H1 := ⟨h.1, ⟨h.2.1.1, by
  obtain ⟨cell, h1, h2, h3, h4, h5, h6⟩ := h.2.1.2
  exact ⟨cell, by rw [hq _ (Array.getElem?_eq_some_iff.mp h1).1 h6]; exact h1, h2, h3, h4, h5, h6⟩⟩, h.2.2.kept hq⟩
theorem jev.narrow {G : jG} {A B : Nat → Prop} {U : State} {H : Heap} (h : jev G A U H) (hAB : ∀ q, B q → A q) : jev G B U H := ⟨h.1, ⟨h.2.1.1, by
  obtain ⟨cell, h1, h2, h3, h4, h5, h6⟩ := h.2.1.2
  exact ⟨cell, h1, h2, h3, h4, h5, fun z => h6 (hAB _ z)⟩⟩, h.2.2.narrow hAB⟩
def jok (k : jK) (cc : ByteArray) (nL : Nat) (Ts : List Cond) (own : String) (G : jG) (A : Nat → Prop) (l : Launch) (rm : Room) : Prop :=
  match k with
  | (p, l', _, R, s, m, args, _, meth, c, _) => p.tables.exec = Jvm.exec ∧ c.code = cc ∧ c.maxLocals = nL ∧ s.vm.findClass own = some m.cls ∧ (∀ w ∈ Ts, w.before args s = true) ∧ va_K G.1 vwCl (jty G) s ∧ (∀ q, s.heap.size ≤ q → A q) ∧ jev G A s s.heap ∧ l' = l ∧ R = rm
def jini (k : jK) : Prop := match k with
  | (_, _, _, _, _, _, _, _, meth, _, _) => meth.name = "<init>"
def jx (k : jK) (G : jG) (A : Nat → Prop) (nL n1 n2 : Nat) (ws : va_W) (pc : Nat) (lv : List (Nat × Value)) (st : List Value) : Prop :=
  match k with
  | (p, l, e, R, s, m, args, below, meth, c, Q) => ∀ (H : Heap) (locs : List Loc) (ls : Array Slot), va_P G.1 vwCl ws H → va_D A ws → va_S A s.heap H locs → lv_has ls nL lv → W p l e R s m args below meth c H locs n1 n2 Q (F0 m pc ls st)
section JX
variable {k : jK} {cc : ByteArray} {nL : Nat} {Ts : List Cond} {own : String} {G : jG} {A : Nat → Prop} {l : Launch} {rm : Room} {n1 n2 : Nat} {ws : va_W} {pc : Nat} {lv : List (Nat × Value)} {st : List Value}
def jsh (a b c d : Nat) : Nat → Option Nat := fun j => match j with
  | 0 => some a
  | 1 => some b
  | 2 => some c
  | 3 => some d
  | _ => none
theorem jx_four {i : Int32} (h : vp_in i 4) : i.toNatClampNeg = 0 ∨ i.toNatClampNeg = 1 ∨ i.toNatClampNeg = 2 ∨ i.toNatClampNeg = 3 := by
  have hlt : i.toNatClampNeg < 4 := Nat.not_le.mp fun q => h (Or.inr q)
  omega
theorem jx_bool {r : Int32} (h : r = 0 ∨ r = 1) : narrow .boolean (.int r) = .int r := by
  rcases h with h | h <;> subst h <;> rfl
theorem jx_inC {i : Int32} {n j : Nat} (h : (decide (¬ (i < 0 ∨ n ≤ i.toNatClampNeg)) && decide (i.toNatClampNeg = j)) = true) : vp_in i n ∧ i.toNatClampNeg = j := by
  rw [Bool.and_eq_true] at h
  have h1 : ¬ (i < 0 ∨ n ≤ i.toNatClampNeg) := of_decide_eq_true h.1
  exact ⟨h1, of_decide_eq_true h.2⟩
theorem jx_iadd (hk : jok k cc nL Ts own G A l rm) {x y : Int32} (hd : decode cc pc = .ok (.iadd, 1)) (kk : jx k G A nL n1 n2 ws (pc + 1) lv (.int (x + y) :: st)) : jx k G A nL n1 n2 ws pc lv (.int y :: .int x :: st) := by
  obtain ⟨p, l0, e, R, s, m, args, below, meth, c, Q⟩ := k
  obtain ⟨hx, hb, hml, hown, hts, hK, hA, hev, rfl, rfl⟩ := hk
  intro H locs ls hP hD hS hl
  exact lv_iadd hx hb hd (kk H locs ls hP hD hS hl)
theorem jx_isub (hk : jok k cc nL Ts own G A l rm) {x y : Int32} (hd : decode cc pc = .ok (.isub, 1)) (kk : jx k G A nL n1 n2 ws (pc + 1) lv (.int (x - y) :: st)) : jx k G A nL n1 n2 ws pc lv (.int y :: .int x :: st) := by
  obtain ⟨p, l0, e, R, s, m, args, below, meth, c, Q⟩ := k
  obtain ⟨hx, hb, hml, hown, hts, hK, hA, hev, rfl, rfl⟩ := hk
  intro H locs ls hP hD hS hl
  exact lv_isub hx hb hd (kk H locs ls hP hD hS hl)
theorem jx_imul (hk : jok k cc nL Ts own G A l rm) {x y : Int32} (hd : decode cc pc = .ok (.imul, 1)) (kk : jx k G A nL n1 n2 ws (pc + 1) lv (.int (x * y) :: st)) : jx k G A nL n1 n2 ws pc lv (.int y :: .int x :: st) := by
  obtain ⟨p, l0, e, R, s, m, args, below, meth, c, Q⟩ := k
  obtain ⟨hx, hb, hml, hown, hts, hK, hA, hev, rfl, rfl⟩ := hk
  intro H locs ls hP hD hS hl
  exact lv_imul hx hb hd (kk H locs ls hP hD hS hl)
theorem jx_iand (hk : jok k cc nL Ts own G A l rm) {x y : Int32} (hd : decode cc pc = .ok (.iand, 1)) (kk : jx k G A nL n1 n2 ws (pc + 1) lv (.int (x &&& y) :: st)) : jx k G A nL n1 n2 ws pc lv (.int y :: .int x :: st) := by
  obtain ⟨p, l0, e, R, s, m, args, below, meth, c, Q⟩ := k
  obtain ⟨hx, hb, hml, hown, hts, hK, hA, hev, rfl, rfl⟩ := hk
  intro H locs ls hP hD hS hl
  exact lv_iand hx hb hd (kk H locs ls hP hD hS hl)
theorem jx_ior (hk : jok k cc nL Ts own G A l rm) {x y : Int32} (hd : decode cc pc = .ok (.ior, 1)) (kk : jx k G A nL n1 n2 ws (pc + 1) lv (.int (x ||| y) :: st)) : jx k G A nL n1 n2 ws pc lv (.int y :: .int x :: st) := by
  obtain ⟨p, l0, e, R, s, m, args, below, meth, c, Q⟩ := k
  obtain ⟨hx, hb, hml, hown, hts, hK, hA, hev, rfl, rfl⟩ := hk
  intro H locs ls hP hD hS hl
  exact lv_ior hx hb hd (kk H locs ls hP hD hS hl)
theorem jx_ixor (hk : jok k cc nL Ts own G A l rm) {x y : Int32} (hd : decode cc pc = .ok (.ixor, 1)) (kk : jx k G A nL n1 n2 ws (pc + 1) lv (.int (x ^^^ y) :: st)) : jx k G A nL n1 n2 ws pc lv (.int y :: .int x :: st) := by
  obtain ⟨p, l0, e, R, s, m, args, below, meth, c, Q⟩ := k
  obtain ⟨hx, hb, hml, hown, hts, hK, hA, hev, rfl, rfl⟩ := hk
  intro H locs ls hP hD hS hl
  exact lv_ixor hx hb hd (kk H locs ls hP hD hS hl)
theorem jx_ishl (hk : jok k cc nL Ts own G A l rm) {x y : Int32} (hd : decode cc pc = .ok (.ishl, 1)) (kk : jx k G A nL n1 n2 ws (pc + 1) lv (.int (x <<< (y &&& 31)) :: st)) : jx k G A nL n1 n2 ws pc lv (.int y :: .int x :: st) := by
  obtain ⟨p, l0, e, R, s, m, args, below, meth, c, Q⟩ := k
  obtain ⟨hx, hb, hml, hown, hts, hK, hA, hev, rfl, rfl⟩ := hk
  intro H locs ls hP hD hS hl
  exact lv_ishl hx hb hd (kk H locs ls hP hD hS hl)
theorem jx_ishr (hk : jok k cc nL Ts own G A l rm) {x y : Int32} (hd : decode cc pc = .ok (.ishr, 1)) (kk : jx k G A nL n1 n2 ws (pc + 1) lv (.int (x >>> (y &&& 31)) :: st)) : jx k G A nL n1 n2 ws pc lv (.int y :: .int x :: st) := by
  obtain ⟨p, l0, e, R, s, m, args, below, meth, c, Q⟩ := k
  obtain ⟨hx, hb, hml, hown, hts, hK, hA, hev, rfl, rfl⟩ := hk
  intro H locs ls hP hD hS hl
  exact lv_ishr hx hb hd (kk H locs ls hP hD hS hl)
theorem jx_idiv (hk : jok k cc nL Ts own G A l rm) {x y : Int32} (hd : decode cc pc = .ok (.idiv, 1)) (hne : ¬ y = 0) (kk : jx k G A nL n1 n2 ws (pc + 1) lv (.int (x / y) :: st)) : jx k G A nL n1 n2 ws pc lv (.int y :: .int x :: st) := by
  obtain ⟨p, l0, e, R, s, m, args, below, meth, c, Q⟩ := k
  obtain ⟨hx, hb, hml, hown, hts, hK, hA, hev, rfl, rfl⟩ := hk
  intro H locs ls hP hD hS hl
  exact lv_idiv hx hb hd hne (kk H locs ls hP hD hS hl)
theorem jx_irem (hk : jok k cc nL Ts own G A l rm) {x y : Int32} (hd : decode cc pc = .ok (.irem, 1)) (hne : ¬ y = 0) (kk : jx k G A nL n1 n2 ws (pc + 1) lv (.int (x - x / y * y) :: st)) : jx k G A nL n1 n2 ws pc lv (.int y :: .int x :: st) := by
  obtain ⟨p, l0, e, R, s, m, args, below, meth, c, Q⟩ := k
  obtain ⟨hx, hb, hml, hown, hts, hK, hA, hev, rfl, rfl⟩ := hk
  intro H locs ls hP hD hS hl
  exact lv_irem hx hb hd hne (kk H locs ls hP hD hS hl)
theorem jx_ladd (hk : jok k cc nL Ts own G A l rm) {x y : Int64} (hd : decode cc pc = .ok (.ladd, 1)) (kk : jx k G A nL n1 n2 ws (pc + 1) lv (.long (x + y) :: st)) : jx k G A nL n1 n2 ws pc lv (.long y :: .long x :: st) := by
  obtain ⟨p, l0, e, R, s, m, args, below, meth, c, Q⟩ := k
  obtain ⟨hx, hb, hml, hown, hts, hK, hA, hev, rfl, rfl⟩ := hk
  intro H locs ls hP hD hS hl
  exact lv_ladd hx hb hd (kk H locs ls hP hD hS hl)
theorem jx_lsub (hk : jok k cc nL Ts own G A l rm) {x y : Int64} (hd : decode cc pc = .ok (.lsub, 1)) (kk : jx k G A nL n1 n2 ws (pc + 1) lv (.long (x - y) :: st)) : jx k G A nL n1 n2 ws pc lv (.long y :: .long x :: st) := by
  obtain ⟨p, l0, e, R, s, m, args, below, meth, c, Q⟩ := k
  obtain ⟨hx, hb, hml, hown, hts, hK, hA, hev, rfl, rfl⟩ := hk
  intro H locs ls hP hD hS hl
  exact lv_lsub hx hb hd (kk H locs ls hP hD hS hl)
theorem jx_lmul (hk : jok k cc nL Ts own G A l rm) {x y : Int64} (hd : decode cc pc = .ok (.lmul, 1)) (kk : jx k G A nL n1 n2 ws (pc + 1) lv (.long (x * y) :: st)) : jx k G A nL n1 n2 ws pc lv (.long y :: .long x :: st) := by
  obtain ⟨p, l0, e, R, s, m, args, below, meth, c, Q⟩ := k
  obtain ⟨hx, hb, hml, hown, hts, hK, hA, hev, rfl, rfl⟩ := hk
  intro H locs ls hP hD hS hl
  exact lv_lmul hx hb hd (kk H locs ls hP hD hS hl)
theorem jx_land (hk : jok k cc nL Ts own G A l rm) {x y : Int64} (hd : decode cc pc = .ok (.land, 1)) (kk : jx k G A nL n1 n2 ws (pc + 1) lv (.long (x &&& y) :: st)) : jx k G A nL n1 n2 ws pc lv (.long y :: .long x :: st) := by
  obtain ⟨p, l0, e, R, s, m, args, below, meth, c, Q⟩ := k
  obtain ⟨hx, hb, hml, hown, hts, hK, hA, hev, rfl, rfl⟩ := hk
  intro H locs ls hP hD hS hl
  exact lv_land hx hb hd (kk H locs ls hP hD hS hl)
theorem jx_ldiv (hk : jok k cc nL Ts own G A l rm) {x y : Int64} (hd : decode cc pc = .ok (.ldiv, 1)) (hne : ¬ y = 0) (kk : jx k G A nL n1 n2 ws (pc + 1) lv (.long (x / y) :: st)) : jx k G A nL n1 n2 ws pc lv (.long y :: .long x :: st) := by
  obtain ⟨p, l0, e, R, s, m, args, below, meth, c, Q⟩ := k
  obtain ⟨hx, hb, hml, hown, hts, hK, hA, hev, rfl, rfl⟩ := hk
  intro H locs ls hP hD hS hl
  exact lv_ldiv hx hb hd hne (kk H locs ls hP hD hS hl)
theorem jx_lrem (hk : jok k cc nL Ts own G A l rm) {x y : Int64} (hd : decode cc pc = .ok (.lrem, 1)) (hne : ¬ y = 0) (kk : jx k G A nL n1 n2 ws (pc + 1) lv (.long (x - x / y * y) :: st)) : jx k G A nL n1 n2 ws pc lv (.long y :: .long x :: st) := by
  obtain ⟨p, l0, e, R, s, m, args, below, meth, c, Q⟩ := k
  obtain ⟨hx, hb, hml, hown, hts, hK, hA, hev, rfl, rfl⟩ := hk
  intro H locs ls hP hD hS hl
  exact lv_lrem hx hb hd hne (kk H locs ls hP hD hS hl)
theorem jx_iushr (hk : jok k cc nL Ts own G A l rm) {x y : Int32} (hd : decode cc pc = .ok (.iushr, 1)) (kk : jx k G A nL n1 n2 ws (pc + 1) lv (.int ((x.toUInt32 >>> (y.toUInt32 &&& Int32.toUInt32 31)).toInt32) :: st)) : jx k G A nL n1 n2 ws pc lv (.int y :: .int x :: st) := by
  obtain ⟨p, l0, e, R, s, m, args, below, meth, c, Q⟩ := k
  obtain ⟨hx, hb, hml, hown, hts, hK, hA, hev, rfl, rfl⟩ := hk
  intro H locs ls hP hD hS hl
  exact lv_iushr hx hb hd rfl (kk H locs ls hP hD hS hl)
theorem jx_lshl (hk : jok k cc nL Ts own G A l rm) {x : Int64} {y : Int32} (hd : decode cc pc = .ok (.lshl, 1)) (kk : jx k G A nL n1 n2 ws (pc + 1) lv (.long (x <<< (y.toInt64 &&& 63)) :: st)) : jx k G A nL n1 n2 ws pc lv (.int y :: .long x :: st) := by
  obtain ⟨p, l0, e, R, s, m, args, below, meth, c, Q⟩ := k
  obtain ⟨hx, hb, hml, hown, hts, hK, hA, hev, rfl, rfl⟩ := hk
  intro H locs ls hP hD hS hl
  exact lv_lshl hx hb hd rfl (kk H locs ls hP hD hS hl)
theorem jx_lshr (hk : jok k cc nL Ts own G A l rm) {x : Int64} {y : Int32} (hd : decode cc pc = .ok (.lshr, 1)) (kk : jx k G A nL n1 n2 ws (pc + 1) lv (.long (x >>> (y.toInt64 &&& 63)) :: st)) : jx k G A nL n1 n2 ws pc lv (.int y :: .long x :: st) := by
  obtain ⟨p, l0, e, R, s, m, args, below, meth, c, Q⟩ := k
  obtain ⟨hx, hb, hml, hown, hts, hK, hA, hev, rfl, rfl⟩ := hk
  intro H locs ls hP hD hS hl
  exact lv_lshr hx hb hd rfl (kk H locs ls hP hD hS hl)
theorem jx_i2l (hk : jok k cc nL Ts own G A l rm) {x : Int32} (hd : decode cc pc = .ok (.i2l, 1)) (kk : jx k G A nL n1 n2 ws (pc + 1) lv (.long x.toInt64 :: st)) : jx k G A nL n1 n2 ws pc lv (.int x :: st) := by
  obtain ⟨p, l0, e, R, s, m, args, below, meth, c, Q⟩ := k
  obtain ⟨hx, hb, hml, hown, hts, hK, hA, hev, rfl, rfl⟩ := hk
  intro H locs ls hP hD hS hl
  exact lv_i2l hx hb hd rfl (kk H locs ls hP hD hS hl)
theorem jx_i2b (hk : jok k cc nL Ts own G A l rm) {x : Int32} (hd : decode cc pc = .ok (.i2b, 1)) (kk : jx k G A nL n1 n2 ws (pc + 1) lv (.int x.toInt8.toInt32 :: st)) : jx k G A nL n1 n2 ws pc lv (.int x :: st) := by
  obtain ⟨p, l0, e, R, s, m, args, below, meth, c, Q⟩ := k
  obtain ⟨hx, hb, hml, hown, hts, hK, hA, hev, rfl, rfl⟩ := hk
  intro H locs ls hP hD hS hl
  exact lv_i2b hx hb hd rfl (kk H locs ls hP hD hS hl)
theorem jx_i2s (hk : jok k cc nL Ts own G A l rm) {x : Int32} (hd : decode cc pc = .ok (.i2s, 1)) (kk : jx k G A nL n1 n2 ws (pc + 1) lv (.int x.toInt16.toInt32 :: st)) : jx k G A nL n1 n2 ws pc lv (.int x :: st) := by
  obtain ⟨p, l0, e, R, s, m, args, below, meth, c, Q⟩ := k
  obtain ⟨hx, hb, hml, hown, hts, hK, hA, hev, rfl, rfl⟩ := hk
  intro H locs ls hP hD hS hl
  exact lv_i2s hx hb hd rfl (kk H locs ls hP hD hS hl)
theorem jx_dup (hk : jok k cc nL Ts own G A l rm) {va : Value} (hd : decode cc pc = .ok (.dup, 1)) (hva : va.category = 1) (kk : jx k G A nL n1 n2 ws (pc + 1) lv (va :: va :: st)) : jx k G A nL n1 n2 ws pc lv (va :: st) := by
  obtain ⟨p, l0, e, R, s, m, args, below, meth, c, Q⟩ := k
  obtain ⟨hx, hb, hml, hown, hts, hK, hA, hev, rfl, rfl⟩ := hk
  intro H locs ls hP hD hS hl
  exact lv_dup hx hb hd hva (kk H locs ls hP hD hS hl)
theorem jx_pop (hk : jok k cc nL Ts own G A l rm) {va : Value} (hd : decode cc pc = .ok (.pop, 1)) (hva : va.category = 1) (kk : jx k G A nL n1 n2 ws (pc + 1) lv st) : jx k G A nL n1 n2 ws pc lv (va :: st) := by
  obtain ⟨p, l0, e, R, s, m, args, below, meth, c, Q⟩ := k
  obtain ⟨hx, hb, hml, hown, hts, hK, hA, hev, rfl, rfl⟩ := hk
  intro H locs ls hP hD hS hl
  exact lv_pop hx hb hd hva (kk H locs ls hP hD hS hl)
theorem jx_dup2_11 (hk : jok k cc nL Ts own G A l rm) {va vb : Value} (hd : decode cc pc = .ok (.dup2, 1)) (hva : va.category = 1) (hvb : vb.category = 1) (kk : jx k G A nL n1 n2 ws (pc + 1) lv (va :: vb :: va :: vb :: st)) : jx k G A nL n1 n2 ws pc lv (va :: vb :: st) := by
  obtain ⟨p, l0, e, R, s, m, args, below, meth, c, Q⟩ := k
  obtain ⟨hx, hb, hml, hown, hts, hK, hA, hev, rfl, rfl⟩ := hk
  intro H locs ls hP hD hS hl
  exact lv_dup2_11 hx hb hd hva hvb (kk H locs ls hP hD hS hl)
theorem jx_lcmp (hk : jok k cc nL Ts own G A l rm) {x y : Int64} (hd : decode cc pc = .ok (.lcmp, 1)) (kk : jx k G A nL n1 n2 ws (pc + 1) lv (.int (lg_cmp x y) :: st)) : jx k G A nL n1 n2 ws pc lv (.long y :: .long x :: st) := by
  obtain ⟨p, l0, e, R, s, m, args, below, meth, c, Q⟩ := k
  obtain ⟨hx, hb, hml, hown, hts, hK, hA, hev, rfl, rfl⟩ := hk
  intro H locs ls hP hD hS hl
  exact W.lcmp hx hb hd (kk H locs ls hP hD hS hl)
theorem jx_iconst (hk : jok k cc nL Ts own G A l rm) {n : Int} {v : Int32} (hd : decode cc pc = .ok (.iconst n, 1)) (hv : Int32.ofInt n = v) (kk : jx k G A nL n1 n2 ws (pc + 1) lv (.int v :: st)) : jx k G A nL n1 n2 ws pc lv st := by
  obtain ⟨p, l0, e, R, s, m, args, below, meth, c, Q⟩ := k
  obtain ⟨hx, hb, hml, hown, hts, hK, hA, hev, rfl, rfl⟩ := hk
  intro H locs ls hP hD hS hl
  exact lv_iconst hx hb hd hv (kk H locs ls hP hD hS hl)
theorem jx_bipush (hk : jok k cc nL Ts own G A l rm) {n : Int} {v : Int32} (hd : decode cc pc = .ok (.bipush n, 2)) (hv : (Int8.ofInt n).toInt32 = v) (kk : jx k G A nL n1 n2 ws (pc + 2) lv (.int v :: st)) : jx k G A nL n1 n2 ws pc lv st := by
  obtain ⟨p, l0, e, R, s, m, args, below, meth, c, Q⟩ := k
  obtain ⟨hx, hb, hml, hown, hts, hK, hA, hev, rfl, rfl⟩ := hk
  intro H locs ls hP hD hS hl
  exact lv_bipush hx hb hd hv (kk H locs ls hP hD hS hl)
theorem jx_sipush (hk : jok k cc nL Ts own G A l rm) {n : Int} {v : Int32} (hd : decode cc pc = .ok (.sipush n, 3)) (hv : (Int16.ofInt n).toInt32 = v) (kk : jx k G A nL n1 n2 ws (pc + 3) lv (.int v :: st)) : jx k G A nL n1 n2 ws pc lv st := by
  obtain ⟨p, l0, e, R, s, m, args, below, meth, c, Q⟩ := k
  obtain ⟨hx, hb, hml, hown, hts, hK, hA, hev, rfl, rfl⟩ := hk
  intro H locs ls hP hD hS hl
  exact lv_sipush hx hb hd hv (kk H locs ls hP hD hS hl)
theorem jx_lconst (hk : jok k cc nL Ts own G A l rm) {n : Fin 2} {v : Int64} (hd : decode cc pc = .ok (.lconst n, 1)) (hv : Int64.ofNat (n : Nat) = v) (kk : jx k G A nL n1 n2 ws (pc + 1) lv (.long v :: st)) : jx k G A nL n1 n2 ws pc lv st := by
  obtain ⟨p, l0, e, R, s, m, args, below, meth, c, Q⟩ := k
  obtain ⟨hx, hb, hml, hown, hts, hK, hA, hev, rfl, rfl⟩ := hk
  intro H locs ls hP hD hS hl
  exact lv_lconst hx hb hd hv (kk H locs ls hP hD hS hl)
theorem jx_ldc (hk : jok k cc nL Ts own G A l rm) {i : Nat} {v : Int32} (hd : decode cc pc = .ok (.ldc i, 2)) (hc : Cond.constant own i v ∈ Ts) (kk : jx k G A nL n1 n2 ws (pc + 2) lv (.int v :: st)) : jx k G A nL n1 n2 ws pc lv st := by
  obtain ⟨p, l0, e, R, s, m, args, below, meth, c, Q⟩ := k
  obtain ⟨hx, hb, hml, hown, hts, hK, hA, hev, rfl, rfl⟩ := hk
  intro H locs ls hP hD hS hl
  exact lv_ldc hx hb hown (hts _ hc) hd (kk H locs ls hP hD hS hl)
theorem jx_ldc_w (hk : jok k cc nL Ts own G A l rm) {i : Nat} {v : Int32} (hd : decode cc pc = .ok (.ldc_w i, 3)) (hc : Cond.constant own i v ∈ Ts) (kk : jx k G A nL n1 n2 ws (pc + 3) lv (.int v :: st)) : jx k G A nL n1 n2 ws pc lv st := by
  obtain ⟨p, l0, e, R, s, m, args, below, meth, c, Q⟩ := k
  obtain ⟨hx, hb, hml, hown, hts, hK, hA, hev, rfl, rfl⟩ := hk
  intro H locs ls hP hD hS hl
  exact lv_ldcw hx hb hown (hts _ hc) hd (kk H locs ls hP hD hS hl)
theorem jx_ldc2_w (hk : jok k cc nL Ts own G A l rm) {i : Nat} {v : Int64} (hd : decode cc pc = .ok (.ldc2_w i, 3)) (hc : Cond.constantLong own i v ∈ Ts) (kk : jx k G A nL n1 n2 ws (pc + 3) lv (.long v :: st)) : jx k G A nL n1 n2 ws pc lv st := by
  obtain ⟨p, l0, e, R, s, m, args, below, meth, c, Q⟩ := k
  obtain ⟨hx, hb, hml, hown, hts, hK, hA, hev, rfl, rfl⟩ := hk
  intro H locs ls hP hD hS hl
  exact lv_ldc2 hx hb hown (hts _ hc) hd (kk H locs ls hP hD hS hl)
theorem jx_iload_n (hk : jok k cc nL Ts own G A l rm) {q : Fin 4} {i : Nat} {x : Int32} (hd : decode cc pc = .ok (.iload_n q, 1)) (hi : (q : Nat) = i) (j : Nat) (hj : lv[j]? = some (i, .int x)) (kk : jx k G A nL n1 n2 ws (pc + 1) lv (.int x :: st)) : jx k G A nL n1 n2 ws pc lv st := by
  obtain ⟨p, l0, e, R, s, m, args, below, meth, c, Q⟩ := k
  obtain ⟨hx, hb, hml, hown, hts, hK, hA, hev, rfl, rfl⟩ := hk
  intro H locs ls hP hD hS hl
  exact lv_iload_n hx hb hd hi (lv_at hl j hj) (kk H locs ls hP hD hS hl)
theorem jx_iload (hk : jok k cc nL Ts own G A l rm) {i : Nat} {x : Int32} (hd : decode cc pc = .ok (.iload i, 2)) (j : Nat) (hj : lv[j]? = some (i, .int x)) (kk : jx k G A nL n1 n2 ws (pc + 2) lv (.int x :: st)) : jx k G A nL n1 n2 ws pc lv st := by
  obtain ⟨p, l0, e, R, s, m, args, below, meth, c, Q⟩ := k
  obtain ⟨hx, hb, hml, hown, hts, hK, hA, hev, rfl, rfl⟩ := hk
  intro H locs ls hP hD hS hl
  exact lv_iload hx hb hd (lv_at hl j hj) (kk H locs ls hP hD hS hl)
theorem jx_istore_n (hk : jok k cc nL Ts own G A l rm) {q : Fin 4} {i : Nat} {x : Int32} {lv' : List (Nat × Value)} (hd : decode cc pc = .ok (.istore_n q, 1)) (hi : (q : Nat) = i) (hn : i < nL) (hf : (i, Value.int x) :: lv.filter (fun q => !(q.1 == i) && !(q.1 + 1 == i && q.2.category == 2)) = lv') (kk : jx k G A nL n1 n2 ws (pc + 1) lv' st) : jx k G A nL n1 n2 ws pc lv (.int x :: st) := by
  obtain ⟨p, l0, e, R, s, m, args, below, meth, c, Q⟩ := k
  obtain ⟨hx, hb, hml, hown, hts, hK, hA, hev, rfl, rfl⟩ := hk
  intro H locs ls hP hD hS hl
  exact lv_istore_n hx hb hd hi hl hn hf (fun ls hl => kk H locs ls hP hD hS hl)
theorem jx_istore (hk : jok k cc nL Ts own G A l rm) {i : Nat} {x : Int32} {lv' : List (Nat × Value)} (hd : decode cc pc = .ok (.istore i, 2)) (hn : i < nL) (hf : (i, Value.int x) :: lv.filter (fun q => !(q.1 == i) && !(q.1 + 1 == i && q.2.category == 2)) = lv') (kk : jx k G A nL n1 n2 ws (pc + 2) lv' st) : jx k G A nL n1 n2 ws pc lv (.int x :: st) := by
  obtain ⟨p, l0, e, R, s, m, args, below, meth, c, Q⟩ := k
  obtain ⟨hx, hb, hml, hown, hts, hK, hA, hev, rfl, rfl⟩ := hk
  intro H locs ls hP hD hS hl
  exact lv_istore hx hb hd hl hn hf (fun ls hl => kk H locs ls hP hD hS hl)
theorem jx_lload_n (hk : jok k cc nL Ts own G A l rm) {q : Fin 4} {i : Nat} {x : Int64} (hd : decode cc pc = .ok (.lload_n q, 1)) (hi : (q : Nat) = i) (j : Nat) (hj : lv[j]? = some (i, .long x)) (kk : jx k G A nL n1 n2 ws (pc + 1) lv (.long x :: st)) : jx k G A nL n1 n2 ws pc lv st := by
  obtain ⟨p, l0, e, R, s, m, args, below, meth, c, Q⟩ := k
  obtain ⟨hx, hb, hml, hown, hts, hK, hA, hev, rfl, rfl⟩ := hk
  intro H locs ls hP hD hS hl
  exact lv_lload_n hx hb hd hi (lv_at hl j hj) (kk H locs ls hP hD hS hl)
theorem jx_lload (hk : jok k cc nL Ts own G A l rm) {i : Nat} {x : Int64} (hd : decode cc pc = .ok (.lload i, 2)) (j : Nat) (hj : lv[j]? = some (i, .long x)) (kk : jx k G A nL n1 n2 ws (pc + 2) lv (.long x :: st)) : jx k G A nL n1 n2 ws pc lv st := by
  obtain ⟨p, l0, e, R, s, m, args, below, meth, c, Q⟩ := k
  obtain ⟨hx, hb, hml, hown, hts, hK, hA, hev, rfl, rfl⟩ := hk
  intro H locs ls hP hD hS hl
  exact lv_lload hx hb hd (lv_at hl j hj) (kk H locs ls hP hD hS hl)
theorem jx_lstore_n (hk : jok k cc nL Ts own G A l rm) {q : Fin 4} {i : Nat} {x : Int64} {lv' : List (Nat × Value)} (hd : decode cc pc = .ok (.lstore_n q, 1)) (hi : (q : Nat) = i) (hn : i + 1 < nL) (hf : (i, Value.long x) :: lv.filter (fun q => !(q.1 == i) && (!(q.1 == i + 1) && !(q.1 + 1 == i && q.2.category == 2))) = lv') (kk : jx k G A nL n1 n2 ws (pc + 1) lv' st) : jx k G A nL n1 n2 ws pc lv (.long x :: st) := by
  obtain ⟨p, l0, e, R, s, m, args, below, meth, c, Q⟩ := k
  obtain ⟨hx, hb, hml, hown, hts, hK, hA, hev, rfl, rfl⟩ := hk
  intro H locs ls hP hD hS hl
  exact lv_lstore_n hx hb hd hi hl hn hf (fun ls hl => kk H locs ls hP hD hS hl)
theorem jx_lstore (hk : jok k cc nL Ts own G A l rm) {i : Nat} {x : Int64} {lv' : List (Nat × Value)} (hd : decode cc pc = .ok (.lstore i, 2)) (hn : i + 1 < nL) (hf : (i, Value.long x) :: lv.filter (fun q => !(q.1 == i) && (!(q.1 == i + 1) && !(q.1 + 1 == i && q.2.category == 2))) = lv') (kk : jx k G A nL n1 n2 ws (pc + 2) lv' st) : jx k G A nL n1 n2 ws pc lv (.long x :: st) := by
  obtain ⟨p, l0, e, R, s, m, args, below, meth, c, Q⟩ := k
  obtain ⟨hx, hb, hml, hown, hts, hK, hA, hev, rfl, rfl⟩ := hk
  intro H locs ls hP hD hS hl
  exact lv_lstore hx hb hd hl hn hf (fun ls hl => kk H locs ls hP hD hS hl)
theorem jx_aload_n (hk : jok k cc nL Ts own G A l rm) {q : Fin 4} {i : Nat} {x : Nat} (hd : decode cc pc = .ok (.aload_n q, 1)) (hi : (q : Nat) = i) (j : Nat) (hj : lv[j]? = some (i, .ref x)) (kk : jx k G A nL n1 n2 ws (pc + 1) lv (.ref x :: st)) : jx k G A nL n1 n2 ws pc lv st := by
  obtain ⟨p, l0, e, R, s, m, args, below, meth, c, Q⟩ := k
  obtain ⟨hx, hb, hml, hown, hts, hK, hA, hev, rfl, rfl⟩ := hk
  intro H locs ls hP hD hS hl
  exact lv_aload_n hx hb hd hi (lv_at hl j hj) (kk H locs ls hP hD hS hl)
theorem jx_aload (hk : jok k cc nL Ts own G A l rm) {i : Nat} {x : Nat} (hd : decode cc pc = .ok (.aload i, 2)) (j : Nat) (hj : lv[j]? = some (i, .ref x)) (kk : jx k G A nL n1 n2 ws (pc + 2) lv (.ref x :: st)) : jx k G A nL n1 n2 ws pc lv st := by
  obtain ⟨p, l0, e, R, s, m, args, below, meth, c, Q⟩ := k
  obtain ⟨hx, hb, hml, hown, hts, hK, hA, hev, rfl, rfl⟩ := hk
  intro H locs ls hP hD hS hl
  exact lv_aload hx hb hd (lv_at hl j hj) (kk H locs ls hP hD hS hl)
theorem jx_astore_n (hk : jok k cc nL Ts own G A l rm) {q : Fin 4} {i : Nat} {x : Nat} {lv' : List (Nat × Value)} (hd : decode cc pc = .ok (.astore_n q, 1)) (hi : (q : Nat) = i) (hn : i < nL) (hf : (i, Value.ref x) :: lv.filter (fun q => !(q.1 == i) && !(q.1 + 1 == i && q.2.category == 2)) = lv') (kk : jx k G A nL n1 n2 ws (pc + 1) lv' st) : jx k G A nL n1 n2 ws pc lv (.ref x :: st) := by
  obtain ⟨p, l0, e, R, s, m, args, below, meth, c, Q⟩ := k
  obtain ⟨hx, hb, hml, hown, hts, hK, hA, hev, rfl, rfl⟩ := hk
  intro H locs ls hP hD hS hl
  exact lv_astore_n hx hb hd hi hl hn hf (fun ls hl => kk H locs ls hP hD hS hl)
theorem jx_astore (hk : jok k cc nL Ts own G A l rm) {i : Nat} {x : Nat} {lv' : List (Nat × Value)} (hd : decode cc pc = .ok (.astore i, 2)) (hn : i < nL) (hf : (i, Value.ref x) :: lv.filter (fun q => !(q.1 == i) && !(q.1 + 1 == i && q.2.category == 2)) = lv') (kk : jx k G A nL n1 n2 ws (pc + 2) lv' st) : jx k G A nL n1 n2 ws pc lv (.ref x :: st) := by
  obtain ⟨p, l0, e, R, s, m, args, below, meth, c, Q⟩ := k
  obtain ⟨hx, hb, hml, hown, hts, hK, hA, hev, rfl, rfl⟩ := hk
  intro H locs ls hP hD hS hl
  exact lv_astore hx hb hd hl hn hf (fun ls hl => kk H locs ls hP hD hS hl)
theorem jx_iinc (hk : jok k cc nL Ts own G A l rm) {i : Nat} {n : Int} {x v : Int32} {lv' : List (Nat × Value)} (hd : decode cc pc = .ok (.iinc i n, 3)) (j : Nat) (hj : lv[j]? = some (i, .int x)) (hv : x + Int32.ofInt n = v) (hn : i < nL) (hf : (i, Value.int v) :: lv.filter (fun q => !(q.1 == i) && !(q.1 + 1 == i && q.2.category == 2)) = lv') (kk : jx k G A nL n1 n2 ws (pc + 3) lv' st) : jx k G A nL n1 n2 ws pc lv st := by
  obtain ⟨p, l0, e, R, s, m, args, below, meth, c, Q⟩ := k
  obtain ⟨hx, hb, hml, hown, hts, hK, hA, hev, rfl, rfl⟩ := hk
  intro H locs ls hP hD hS hl
  exact lv_iinc hx hb hd hl hj hv hn hf (fun ls hl => kk H locs ls hP hD hS hl)
theorem jx_iincN (hk : jok k cc nL Ts own G A l rm) {i : Nat} {n : Int} {x c : Int32} {lvf : Int32 → List (Nat × Value)} (hd : decode cc pc = .ok (.iinc i n, 3)) (j : Nat) (hj : lv[j]? = some (i, .int x)) (hc : Int32.ofInt n = c) (hn : i < nL) (hf : ∀ v : Int32, (i, Value.int v) :: lv.filter (fun q => !(q.1 == i) && !(q.1 + 1 == i && q.2.category == 2)) = lvf v) (kk : ∀ v : Int32, v = x + c → jx k G A nL n1 n2 ws (pc + 3) (lvf v) st) : jx k G A nL n1 n2 ws pc lv st := by
  obtain ⟨p, l0, e, R, s, m, args, below, meth, c, Q⟩ := k
  obtain ⟨hx, hb, hml, hown, hts, hK, hA, hev, rfl, rfl⟩ := hk
  intro H locs ls hP hD hS hl
  subst hc
  exact lv_iinc hx hb hd hl hj rfl hn (hf _) (fun ls hl => kk _ rfl H locs ls hP hD hS hl)
theorem jx_if_eq (hk : jok k cc nL Ts own G A l rm) {x : Int32} {off : Int} {tgt : Nat} (hd : decode cc pc = .ok (.ifCond .eq off, 3)) (ht : (pc : Int) + off = (tgt : Int)) (kt : x = 0 → jx k G A nL n1 n2 ws tgt lv st) (kf : ¬ x = 0 → jx k G A nL n1 n2 ws (pc + 3) lv st) : jx k G A nL n1 n2 ws pc lv (.int x :: st) := by
  obtain ⟨p, l0, e, R, s, m, args, below, meth, c, Q⟩ := k
  obtain ⟨hx, hb, hml, hown, hts, hK, hA, hev, rfl, rfl⟩ := hk
  intro H locs ls hP hD hS hl
  exact lv_if_eq hx hb hd ht (fun h => kt h H locs ls hP hD hS hl) (fun h => kf h H locs ls hP hD hS hl)
theorem jx_icmp_eq (hk : jok k cc nL Ts own G A l rm) {x y : Int32} {off : Int} {tgt : Nat} (hd : decode cc pc = .ok (.if_icmp .eq off, 3)) (ht : (pc : Int) + off = (tgt : Int)) (kt : x = y → jx k G A nL n1 n2 ws tgt lv st) (kf : ¬ x = y → jx k G A nL n1 n2 ws (pc + 3) lv st) : jx k G A nL n1 n2 ws pc lv (.int y :: .int x :: st) := by
  obtain ⟨p, l0, e, R, s, m, args, below, meth, c, Q⟩ := k
  obtain ⟨hx, hb, hml, hown, hts, hK, hA, hev, rfl, rfl⟩ := hk
  intro H locs ls hP hD hS hl
  exact lv_icmp_eq hx hb hd ht (fun h => kt h H locs ls hP hD hS hl) (fun h => kf h H locs ls hP hD hS hl)
theorem jx_if_ne (hk : jok k cc nL Ts own G A l rm) {x : Int32} {off : Int} {tgt : Nat} (hd : decode cc pc = .ok (.ifCond .ne off, 3)) (ht : (pc : Int) + off = (tgt : Int)) (kt : ¬ x = 0 → jx k G A nL n1 n2 ws tgt lv st) (kf : x = 0 → jx k G A nL n1 n2 ws (pc + 3) lv st) : jx k G A nL n1 n2 ws pc lv (.int x :: st) := by
  obtain ⟨p, l0, e, R, s, m, args, below, meth, c, Q⟩ := k
  obtain ⟨hx, hb, hml, hown, hts, hK, hA, hev, rfl, rfl⟩ := hk
  intro H locs ls hP hD hS hl
  exact lv_if_ne hx hb hd ht (fun h => kt h H locs ls hP hD hS hl) (fun h => kf h H locs ls hP hD hS hl)
theorem jx_icmp_ne (hk : jok k cc nL Ts own G A l rm) {x y : Int32} {off : Int} {tgt : Nat} (hd : decode cc pc = .ok (.if_icmp .ne off, 3)) (ht : (pc : Int) + off = (tgt : Int)) (kt : ¬ x = y → jx k G A nL n1 n2 ws tgt lv st) (kf : x = y → jx k G A nL n1 n2 ws (pc + 3) lv st) : jx k G A nL n1 n2 ws pc lv (.int y :: .int x :: st) := by
  obtain ⟨p, l0, e, R, s, m, args, below, meth, c, Q⟩ := k
  obtain ⟨hx, hb, hml, hown, hts, hK, hA, hev, rfl, rfl⟩ := hk
  intro H locs ls hP hD hS hl
  exact lv_icmp_ne hx hb hd ht (fun h => kt h H locs ls hP hD hS hl) (fun h => kf h H locs ls hP hD hS hl)
theorem jx_if_lt (hk : jok k cc nL Ts own G A l rm) {x : Int32} {off : Int} {tgt : Nat} (hd : decode cc pc = .ok (.ifCond .lt off, 3)) (ht : (pc : Int) + off = (tgt : Int)) (kt : x < 0 → jx k G A nL n1 n2 ws tgt lv st) (kf : ¬ x < 0 → jx k G A nL n1 n2 ws (pc + 3) lv st) : jx k G A nL n1 n2 ws pc lv (.int x :: st) := by
  obtain ⟨p, l0, e, R, s, m, args, below, meth, c, Q⟩ := k
  obtain ⟨hx, hb, hml, hown, hts, hK, hA, hev, rfl, rfl⟩ := hk
  intro H locs ls hP hD hS hl
  exact lv_if_lt hx hb hd ht (fun h => kt h H locs ls hP hD hS hl) (fun h => kf h H locs ls hP hD hS hl)
theorem jx_icmp_lt (hk : jok k cc nL Ts own G A l rm) {x y : Int32} {off : Int} {tgt : Nat} (hd : decode cc pc = .ok (.if_icmp .lt off, 3)) (ht : (pc : Int) + off = (tgt : Int)) (kt : x < y → jx k G A nL n1 n2 ws tgt lv st) (kf : ¬ x < y → jx k G A nL n1 n2 ws (pc + 3) lv st) : jx k G A nL n1 n2 ws pc lv (.int y :: .int x :: st) := by
  obtain ⟨p, l0, e, R, s, m, args, below, meth, c, Q⟩ := k
  obtain ⟨hx, hb, hml, hown, hts, hK, hA, hev, rfl, rfl⟩ := hk
  intro H locs ls hP hD hS hl
  exact lv_icmp_lt hx hb hd ht (fun h => kt h H locs ls hP hD hS hl) (fun h => kf h H locs ls hP hD hS hl)
theorem jx_if_ge (hk : jok k cc nL Ts own G A l rm) {x : Int32} {off : Int} {tgt : Nat} (hd : decode cc pc = .ok (.ifCond .ge off, 3)) (ht : (pc : Int) + off = (tgt : Int)) (kt : 0 ≤ x → jx k G A nL n1 n2 ws tgt lv st) (kf : ¬ 0 ≤ x → jx k G A nL n1 n2 ws (pc + 3) lv st) : jx k G A nL n1 n2 ws pc lv (.int x :: st) := by
  obtain ⟨p, l0, e, R, s, m, args, below, meth, c, Q⟩ := k
  obtain ⟨hx, hb, hml, hown, hts, hK, hA, hev, rfl, rfl⟩ := hk
  intro H locs ls hP hD hS hl
  exact lv_if_ge hx hb hd ht (fun h => kt h H locs ls hP hD hS hl) (fun h => kf h H locs ls hP hD hS hl)
theorem jx_icmp_ge (hk : jok k cc nL Ts own G A l rm) {x y : Int32} {off : Int} {tgt : Nat} (hd : decode cc pc = .ok (.if_icmp .ge off, 3)) (ht : (pc : Int) + off = (tgt : Int)) (kt : y ≤ x → jx k G A nL n1 n2 ws tgt lv st) (kf : ¬ y ≤ x → jx k G A nL n1 n2 ws (pc + 3) lv st) : jx k G A nL n1 n2 ws pc lv (.int y :: .int x :: st) := by
  obtain ⟨p, l0, e, R, s, m, args, below, meth, c, Q⟩ := k
  obtain ⟨hx, hb, hml, hown, hts, hK, hA, hev, rfl, rfl⟩ := hk
  intro H locs ls hP hD hS hl
  exact lv_icmp_ge hx hb hd ht (fun h => kt h H locs ls hP hD hS hl) (fun h => kf h H locs ls hP hD hS hl)
theorem jx_if_gt (hk : jok k cc nL Ts own G A l rm) {x : Int32} {off : Int} {tgt : Nat} (hd : decode cc pc = .ok (.ifCond .gt off, 3)) (ht : (pc : Int) + off = (tgt : Int)) (kt : 0 < x → jx k G A nL n1 n2 ws tgt lv st) (kf : ¬ 0 < x → jx k G A nL n1 n2 ws (pc + 3) lv st) : jx k G A nL n1 n2 ws pc lv (.int x :: st) := by
  obtain ⟨p, l0, e, R, s, m, args, below, meth, c, Q⟩ := k
  obtain ⟨hx, hb, hml, hown, hts, hK, hA, hev, rfl, rfl⟩ := hk
  intro H locs ls hP hD hS hl
  exact lv_if_gt hx hb hd ht (fun h => kt h H locs ls hP hD hS hl) (fun h => kf h H locs ls hP hD hS hl)
theorem jx_icmp_gt (hk : jok k cc nL Ts own G A l rm) {x y : Int32} {off : Int} {tgt : Nat} (hd : decode cc pc = .ok (.if_icmp .gt off, 3)) (ht : (pc : Int) + off = (tgt : Int)) (kt : y < x → jx k G A nL n1 n2 ws tgt lv st) (kf : ¬ y < x → jx k G A nL n1 n2 ws (pc + 3) lv st) : jx k G A nL n1 n2 ws pc lv (.int y :: .int x :: st) := by
  obtain ⟨p, l0, e, R, s, m, args, below, meth, c, Q⟩ := k
  obtain ⟨hx, hb, hml, hown, hts, hK, hA, hev, rfl, rfl⟩ := hk
  intro H locs ls hP hD hS hl
  exact lv_icmp_gt hx hb hd ht (fun h => kt h H locs ls hP hD hS hl) (fun h => kf h H locs ls hP hD hS hl)
theorem jx_if_le (hk : jok k cc nL Ts own G A l rm) {x : Int32} {off : Int} {tgt : Nat} (hd : decode cc pc = .ok (.ifCond .le off, 3)) (ht : (pc : Int) + off = (tgt : Int)) (kt : x ≤ 0 → jx k G A nL n1 n2 ws tgt lv st) (kf : ¬ x ≤ 0 → jx k G A nL n1 n2 ws (pc + 3) lv st) : jx k G A nL n1 n2 ws pc lv (.int x :: st) := by
  obtain ⟨p, l0, e, R, s, m, args, below, meth, c, Q⟩ := k
  obtain ⟨hx, hb, hml, hown, hts, hK, hA, hev, rfl, rfl⟩ := hk
  intro H locs ls hP hD hS hl
  exact lv_if_le hx hb hd ht (fun h => kt h H locs ls hP hD hS hl) (fun h => kf h H locs ls hP hD hS hl)
theorem jx_icmp_le (hk : jok k cc nL Ts own G A l rm) {x y : Int32} {off : Int} {tgt : Nat} (hd : decode cc pc = .ok (.if_icmp .le off, 3)) (ht : (pc : Int) + off = (tgt : Int)) (kt : x ≤ y → jx k G A nL n1 n2 ws tgt lv st) (kf : ¬ x ≤ y → jx k G A nL n1 n2 ws (pc + 3) lv st) : jx k G A nL n1 n2 ws pc lv (.int y :: .int x :: st) := by
  obtain ⟨p, l0, e, R, s, m, args, below, meth, c, Q⟩ := k
  obtain ⟨hx, hb, hml, hown, hts, hK, hA, hev, rfl, rfl⟩ := hk
  intro H locs ls hP hD hS hl
  exact lv_icmp_le hx hb hd ht (fun h => kt h H locs ls hP hD hS hl) (fun h => kf h H locs ls hP hD hS hl)
theorem jx_goto (hk : jok k cc nL Ts own G A l rm) {off : Int} {tgt : Nat} (hd : decode cc pc = .ok (.goto off, 3)) (ht : (pc : Int) + off = (tgt : Int)) (kk : jx k G A nL n1 n2 ws tgt lv st) : jx k G A nL n1 n2 ws pc lv st := by
  obtain ⟨p, l0, e, R, s, m, args, below, meth, c, Q⟩ := k
  obtain ⟨hx, hb, hml, hown, hts, hK, hA, hev, rfl, rfl⟩ := hk
  intro H locs ls hP hD hS hl
  exact lv_goto hx hb hd ht (kk H locs ls hP hD hS hl)
theorem jx_tin (hk : jok k cc nL Ts own G A l rm) {dflt lo hi : Int} {offs : Array Int} {len : Nat} {x v : Int32} {off : Int} {tgt : Nat} (hd : decode cc pc = .ok (.tableswitch dflt lo hi offs, len)) (hxv : x = v) (h1 : ¬ v.toInt < lo) (h2 : ¬ hi < v.toInt) (ho : offs[(v.toInt - lo).toNat]? = some off) (ht : (pc : Int) + off = (tgt : Int)) (kk : jx k G A nL n1 n2 ws tgt lv st) : jx k G A nL n1 n2 ws pc lv (.int x :: st) := by
  obtain ⟨p, l0, e, R, s, m, args, below, meth, c, Q⟩ := k
  obtain ⟨hx, hb, hml, hown, hts, hK, hA, hev, rfl, rfl⟩ := hk
  intro H locs ls hP hD hS hl
  subst hxv
  exact lv_tableIn hx hb hd h1 h2 ho ht (kk H locs ls hP hD hS hl)
theorem jx_tout (hk : jok k cc nL Ts own G A l rm) {dflt lo hi : Int} {offs : Array Int} {len : Nat} {x : Int32} {tgt : Nat} (hd : decode cc pc = .ok (.tableswitch dflt lo hi offs, len)) (h : x.toInt < lo ∨ hi < x.toInt) (ht : (pc : Int) + dflt = (tgt : Int)) (kk : jx k G A nL n1 n2 ws tgt lv st) : jx k G A nL n1 n2 ws pc lv (.int x :: st) := by
  obtain ⟨p, l0, e, R, s, m, args, below, meth, c, Q⟩ := k
  obtain ⟨hx, hb, hml, hown, hts, hK, hA, hev, rfl, rfl⟩ := hk
  intro H locs ls hP hD hS hl
  exact lv_tableOut hx hb hd h ht (kk H locs ls hP hD hS hl)
theorem jx_lsw (hk : jok k cc nL Ts own G A l rm) {dflt : Int} {ps : Array (Int × Int)} {len : Nat} {x : Int32} {off : Int} {tgt : Nat} (hd : decode cc pc = .ok (.lookupswitch dflt ps, len)) (hp : (ps.toList.zip (ps.toList.drop 1)).all (fun (a, next) => a.1 < next.1) = true) (ho : Op.lookupswitch.offset ps.toList dflt x.toInt = off) (ht : (pc : Int) + off = (tgt : Int)) (kk : jx k G A nL n1 n2 ws tgt lv st) : jx k G A nL n1 n2 ws pc lv (.int x :: st) := by
  obtain ⟨p, l0, e, R, s, m, args, below, meth, c, Q⟩ := k
  obtain ⟨hx, hb, hml, hown, hts, hK, hA, hev, rfl, rfl⟩ := hk
  intro H locs ls hP hD hS hl
  exact lv_lookup hx hb hd hp ho ht (kk H locs ls hP hD hS hl)
theorem jx_topi {x : Int32} (kk : ∀ y : Int32, y = x → jx k G A nL n1 n2 ws pc lv (.int y :: st)) : jx k G A nL n1 n2 ws pc lv (.int x :: st) := kk x rfl
theorem jx_topl {x : Int64} (kk : ∀ y : Int64, y = x → jx k G A nL n1 n2 ws pc lv (.long y :: st)) : jx k G A nL n1 n2 ws pc lv (.long x :: st) := kk x rfl
theorem jx_lvs {lv' : List (Nat × Value)} (ks : List Nat) (h : lv_pick lv ks = lv') (kk : jx k G A nL n1 n2 ws pc lv' st) : jx k G A nL n1 n2 ws pc lv st := by
  obtain ⟨p, l0, e, R, s, m, args, below, meth, c, Q⟩ := k
  intro H locs ls hP hD hS hl
  exact kk H locs ls hP hD hS (lv_sub hl ks h)
theorem jx_fm {ws w : va_W} : ∀ {is : List Nat} , is.map (fun i => ws[i]?) = w.map some → is.filterMap (fun i => ws[i]?) = w := by
  intro is h
  have h2 : (is.map (fun i => ws[i]?)).filterMap id = (w.map some).filterMap id := by rw [h]
  rw [List.filterMap_map, List.filterMap_map] at h2
  have h3 : List.filterMap (id ∘ some) w = w := by
    show List.filterMap some w = w
    exact List.filterMap_some
  rw [h3] at h2
  exact h2
theorem jx_wsub {ws' : va_W} (is : List Nat) (hn : va_nd is = true) (h : is.map (fun i => ws[i]?) = ws'.map some) (kk : jx k G A nL n1 n2 ws' pc lv st) : jx k G A nL n1 n2 ws pc lv st := by
  obtain ⟨p, l0, e, R, s, m, args, below, meth, c, Q⟩ := k
  intro H locs ls hP hD hS hl
  exact kk H locs ls (hP.sub is (jx_fm h)) (hD.sub is hn h) hS hl
theorem jx_iaload (hk : jok k cc nL Ts own G A l rm) {a n : Nat} {f : Nat → Int32} {i : Int32} (hd : decode cc pc = .ok (.iaload, 1)) (q0 : Nat) (ha : ws[q0]? = some (jai G a n f)) (hin : vp_in i n) (kk : jx k G A nL n1 n2 ws (pc + 1) lv (.int (f i.toNatClampNeg) :: st)) : jx k G A nL n1 n2 ws pc lv (.int i :: .ref a :: st) := by
  obtain ⟨p, l0, e, R, s, m, args, below, meth, c, Q⟩ := k
  obtain ⟨hx, hb, hml, hown, hts, hK, hA, hev, rfl, rfl⟩ := hk
  intro H locs ls hP hD hS hl
  exact va_iald hx hb hK hP q0 0 ha rfl hin hd (kk H locs ls hP hD hS hl)
theorem jx_iastore (hk : jok k cc nL Ts own G A l rm) {a n : Nat} {f : Nat → Int32} {i : Int32} {x : Int32} {ws' : va_W} (hd : decode cc pc = .ok (.iastore, 1)) (q0 : Nat) (ha : ws[q0]? = some (jai G a n f)) (hin : vp_in i n) (hw : ws.set q0 (jai G a n (upd f i.toNatClampNeg x)) = ws') (kk : jx k G A nL n1 n2 ws' (pc + 1) lv st) : jx k G A nL n1 n2 ws pc lv (.int x :: .int i :: .ref a :: st) := by
  obtain ⟨p, l0, e, R, s, m, args, below, meth, c, Q⟩ := k
  obtain ⟨hx, hb, hml, hown, hts, hK, hA, hev, rfl, rfl⟩ := hk
  intro H locs ls hP hD hS hl
  subst hw
  exact va_iast hx hb hK hP hD hS q0 0 ha rfl hin hd (fun H locs hP hD hS => kk H locs ls hP hD hS hl)
theorem jx_ialoadC (hk : jok k cc nL Ts own G A l rm) {a n j : Nat} {f : Nat → Int32} {i : Int32} (hd : decode cc pc = .ok (.iaload, 1)) (q0 : Nat) (ha : ws[q0]? = some (jai G a n f)) (hj : (decide (¬ (i < 0 ∨ n ≤ i.toNatClampNeg)) && decide (i.toNatClampNeg = j)) = true) (kk : jx k G A nL n1 n2 ws (pc + 1) lv (.int (f j) :: st)) : jx k G A nL n1 n2 ws pc lv (.int i :: .ref a :: st) := by
  obtain ⟨p, l0, e, R, s, m, args, below, meth, c, Q⟩ := k
  obtain ⟨hx, hb, hml, hown, hts, hK, hA, hev, rfl, rfl⟩ := hk
  intro H locs ls hP hD hS hl
  obtain ⟨hin, rfl⟩ := jx_inC hj
  exact va_iald hx hb hK hP q0 0 ha rfl hin hd (kk H locs ls hP hD hS hl)
theorem jx_iastoreC (hk : jok k cc nL Ts own G A l rm) {a n j : Nat} {f : Nat → Int32} {i : Int32} {x : Int32} {ws' : va_W} (hd : decode cc pc = .ok (.iastore, 1)) (q0 : Nat) (ha : ws[q0]? = some (jai G a n f)) (hj : (decide (¬ (i < 0 ∨ n ≤ i.toNatClampNeg)) && decide (i.toNatClampNeg = j)) = true) (hw : ws.set q0 (jai G a n (upd f j x)) = ws') (kk : jx k G A nL n1 n2 ws' (pc + 1) lv st) : jx k G A nL n1 n2 ws pc lv (.int x :: .int i :: .ref a :: st) := by
  obtain ⟨p, l0, e, R, s, m, args, below, meth, c, Q⟩ := k
  obtain ⟨hx, hb, hml, hown, hts, hK, hA, hev, rfl, rfl⟩ := hk
  intro H locs ls hP hD hS hl
  obtain ⟨hin, rfl⟩ := jx_inC hj
  subst hw
  exact va_iast hx hb hK hP hD hS q0 0 ha rfl hin hd (fun H locs hP hD hS => kk H locs ls hP hD hS hl)
theorem jx_laload (hk : jok k cc nL Ts own G A l rm) {a n : Nat} {f : Nat → Int64} {i : Int32} (hd : decode cc pc = .ok (.laload, 1)) (q0 : Nat) (ha : ws[q0]? = some (jaj G a n f)) (hin : vp_in i n) (kk : jx k G A nL n1 n2 ws (pc + 1) lv (.long (f i.toNatClampNeg) :: st)) : jx k G A nL n1 n2 ws pc lv (.int i :: .ref a :: st) := by
  obtain ⟨p, l0, e, R, s, m, args, below, meth, c, Q⟩ := k
  obtain ⟨hx, hb, hml, hown, hts, hK, hA, hev, rfl, rfl⟩ := hk
  intro H locs ls hP hD hS hl
  exact va_lald hx hb hK hP q0 1 ha rfl hin hd (kk H locs ls hP hD hS hl)
theorem jx_lastore (hk : jok k cc nL Ts own G A l rm) {a n : Nat} {f : Nat → Int64} {i : Int32} {x : Int64} {ws' : va_W} (hd : decode cc pc = .ok (.lastore, 1)) (q0 : Nat) (ha : ws[q0]? = some (jaj G a n f)) (hin : vp_in i n) (hw : ws.set q0 (jaj G a n (vp_updL f i.toNatClampNeg x)) = ws') (kk : jx k G A nL n1 n2 ws' (pc + 1) lv st) : jx k G A nL n1 n2 ws pc lv (.long x :: .int i :: .ref a :: st) := by
  obtain ⟨p, l0, e, R, s, m, args, below, meth, c, Q⟩ := k
  obtain ⟨hx, hb, hml, hown, hts, hK, hA, hev, rfl, rfl⟩ := hk
  intro H locs ls hP hD hS hl
  subst hw
  exact va_last hx hb hK hP hD hS q0 1 ha rfl hin hd (fun H locs hP hD hS => kk H locs ls hP hD hS hl)
theorem jx_laloadC (hk : jok k cc nL Ts own G A l rm) {a n j : Nat} {f : Nat → Int64} {i : Int32} (hd : decode cc pc = .ok (.laload, 1)) (q0 : Nat) (ha : ws[q0]? = some (jaj G a n f)) (hj : (decide (¬ (i < 0 ∨ n ≤ i.toNatClampNeg)) && decide (i.toNatClampNeg = j)) = true) (kk : jx k G A nL n1 n2 ws (pc + 1) lv (.long (f j) :: st)) : jx k G A nL n1 n2 ws pc lv (.int i :: .ref a :: st) := by
  obtain ⟨p, l0, e, R, s, m, args, below, meth, c, Q⟩ := k
  obtain ⟨hx, hb, hml, hown, hts, hK, hA, hev, rfl, rfl⟩ := hk
  intro H locs ls hP hD hS hl
  obtain ⟨hin, rfl⟩ := jx_inC hj
  exact va_lald hx hb hK hP q0 1 ha rfl hin hd (kk H locs ls hP hD hS hl)
theorem jx_lastoreC (hk : jok k cc nL Ts own G A l rm) {a n j : Nat} {f : Nat → Int64} {i : Int32} {x : Int64} {ws' : va_W} (hd : decode cc pc = .ok (.lastore, 1)) (q0 : Nat) (ha : ws[q0]? = some (jaj G a n f)) (hj : (decide (¬ (i < 0 ∨ n ≤ i.toNatClampNeg)) && decide (i.toNatClampNeg = j)) = true) (hw : ws.set q0 (jaj G a n (vp_updL f j x)) = ws') (kk : jx k G A nL n1 n2 ws' (pc + 1) lv st) : jx k G A nL n1 n2 ws pc lv (.long x :: .int i :: .ref a :: st) := by
  obtain ⟨p, l0, e, R, s, m, args, below, meth, c, Q⟩ := k
  obtain ⟨hx, hb, hml, hown, hts, hK, hA, hev, rfl, rfl⟩ := hk
  intro H locs ls hP hD hS hl
  obtain ⟨hin, rfl⟩ := jx_inC hj
  subst hw
  exact va_last hx hb hK hP hD hS q0 1 ha rfl hin hd (fun H locs hP hD hS => kk H locs ls hP hD hS hl)
theorem jx_zaload (hk : jok k cc nL Ts own G A l rm) {a n : Nat} {f : Nat → Int32} {i : Int32} (hd : decode cc pc = .ok (.baload, 1)) (q0 : Nat) (ha : ws[q0]? = some (jaz G a n f)) (hin : vp_in i n) (kk : jx k G A nL n1 n2 ws (pc + 1) lv (.int (f i.toNatClampNeg) :: st)) : jx k G A nL n1 n2 ws pc lv (.int i :: .ref a :: st) := by
  obtain ⟨p, l0, e, R, s, m, args, below, meth, c, Q⟩ := k
  obtain ⟨hx, hb, hml, hown, hts, hK, hA, hev, rfl, rfl⟩ := hk
  intro H locs ls hP hD hS hl
  exact va_zald hx hb hK hP q0 2 ha rfl hin hd (kk H locs ls hP hD hS hl)
theorem jx_zastore (hk : jok k cc nL Ts own G A l rm) {a n : Nat} {f : Nat → Int32} {i : Int32} {x : Int32} {ws' : va_W} (hd : decode cc pc = .ok (.bastore, 1)) (q0 : Nat) (ha : ws[q0]? = some (jaz G a n f)) (hin : vp_in i n) (hw : ws.set q0 (jaz G a n (upd f i.toNatClampNeg (vp_nar .boolean x))) = ws') (kk : jx k G A nL n1 n2 ws' (pc + 1) lv st) : jx k G A nL n1 n2 ws pc lv (.int x :: .int i :: .ref a :: st) := by
  obtain ⟨p, l0, e, R, s, m, args, below, meth, c, Q⟩ := k
  obtain ⟨hx, hb, hml, hown, hts, hK, hA, hev, rfl, rfl⟩ := hk
  intro H locs ls hP hD hS hl
  subst hw
  exact va_zast hx hb hK hP hD hS q0 2 ha rfl hin hd (fun H locs hP hD hS => kk H locs ls hP hD hS hl)
theorem jx_zaloadC (hk : jok k cc nL Ts own G A l rm) {a n j : Nat} {f : Nat → Int32} {i : Int32} (hd : decode cc pc = .ok (.baload, 1)) (q0 : Nat) (ha : ws[q0]? = some (jaz G a n f)) (hj : (decide (¬ (i < 0 ∨ n ≤ i.toNatClampNeg)) && decide (i.toNatClampNeg = j)) = true) (kk : jx k G A nL n1 n2 ws (pc + 1) lv (.int (f j) :: st)) : jx k G A nL n1 n2 ws pc lv (.int i :: .ref a :: st) := by
  obtain ⟨p, l0, e, R, s, m, args, below, meth, c, Q⟩ := k
  obtain ⟨hx, hb, hml, hown, hts, hK, hA, hev, rfl, rfl⟩ := hk
  intro H locs ls hP hD hS hl
  obtain ⟨hin, rfl⟩ := jx_inC hj
  exact va_zald hx hb hK hP q0 2 ha rfl hin hd (kk H locs ls hP hD hS hl)
theorem jx_zastoreC (hk : jok k cc nL Ts own G A l rm) {a n j : Nat} {f : Nat → Int32} {i : Int32} {x : Int32} {ws' : va_W} (hd : decode cc pc = .ok (.bastore, 1)) (q0 : Nat) (ha : ws[q0]? = some (jaz G a n f)) (hj : (decide (¬ (i < 0 ∨ n ≤ i.toNatClampNeg)) && decide (i.toNatClampNeg = j)) = true) (hw : ws.set q0 (jaz G a n (upd f j (vp_nar .boolean x))) = ws') (kk : jx k G A nL n1 n2 ws' (pc + 1) lv st) : jx k G A nL n1 n2 ws pc lv (.int x :: .int i :: .ref a :: st) := by
  obtain ⟨p, l0, e, R, s, m, args, below, meth, c, Q⟩ := k
  obtain ⟨hx, hb, hml, hown, hts, hK, hA, hev, rfl, rfl⟩ := hk
  intro H locs ls hP hD hS hl
  obtain ⟨hin, rfl⟩ := jx_inC hj
  subst hw
  exact va_zast hx hb hK hP hD hS q0 2 ha rfl hin hd (fun H locs hP hD hS => kk H locs ls hP hD hS hl)
theorem jx_ilen (hk : jok k cc nL Ts own G A l rm) {a n : Nat} {f : Nat → Int32} {v : Int32} (hd : decode cc pc = .ok (.arraylength, 1)) (q0 : Nat) (ha : ws[q0]? = some (jai G a n f)) (hv : Int32.ofNat n = v) (kk : jx k G A nL n1 n2 ws (pc + 1) lv (.int v :: st)) : jx k G A nL n1 n2 ws pc lv (.ref a :: st) := by
  obtain ⟨p, l0, e, R, s, m, args, below, meth, c, Q⟩ := k
  obtain ⟨hx, hb, hml, hown, hts, hK, hA, hev, rfl, rfl⟩ := hk
  intro H locs ls hP hD hS hl
  exact va_alen hx hb hK hP q0 0 ha (ty := .int) rfl hv hd (kk H locs ls hP hD hS hl)
theorem jx_llen (hk : jok k cc nL Ts own G A l rm) {a n : Nat} {f : Nat → Int64} {v : Int32} (hd : decode cc pc = .ok (.arraylength, 1)) (q0 : Nat) (ha : ws[q0]? = some (jaj G a n f)) (hv : Int32.ofNat n = v) (kk : jx k G A nL n1 n2 ws (pc + 1) lv (.int v :: st)) : jx k G A nL n1 n2 ws pc lv (.ref a :: st) := by
  obtain ⟨p, l0, e, R, s, m, args, below, meth, c, Q⟩ := k
  obtain ⟨hx, hb, hml, hown, hts, hK, hA, hev, rfl, rfl⟩ := hk
  intro H locs ls hP hD hS hl
  exact va_alen hx hb hK hP q0 1 ha (ty := .long) rfl hv hd (kk H locs ls hP hD hS hl)
theorem jx_aaload (hk : jok k cc nL Ts own G A l rm) {a n : Nat} {f : Nat → Option Nat} {i : Int32} {b : Nat} (hd : decode cc pc = .ok (.aaload, 1)) (q0 : Nat) (ha : ws[q0]? = some (jaq G a n f)) (hin : vp_in i n) (hb0 : f i.toNatClampNeg = some b) (kk : jx k G A nL n1 n2 ws (pc + 1) lv (.ref b :: st)) : jx k G A nL n1 n2 ws pc lv (.int i :: .ref a :: st) := by
  obtain ⟨p, l0, e, R, s, m, args, below, meth, c, Q⟩ := k
  obtain ⟨hx, hb, hml, hown, hts, hK, hA, hev, rfl, rfl⟩ := hk
  intro H locs ls hP hD hS hl
  refine va_aldq hx hb hK hP q0 3 (C := RX2) ha rfl hin hd ?_
  rw [hb0]
  exact kk H locs ls hP hD hS hl
theorem jx_get (hk : jok k cc nL Ts own G A l rm) {C : String} {T : u_T} {N ci a ix : Nat} {fs : List Value} {v : Value} (hin : ∀ w ∈ u_ws C T N, w ∈ Ts) (q0 : Nat) (he : ws[q0]? = some (job a ci fs)) (hc : vwCl[ci]? = some (C, T, N)) (kf : Nat) (hkf : kf < N) (hlk : Cond.fieldLink own ix (T kf).1 (T kf).2.1 (T kf).2.2.1 ∈ Ts) (hv : fs[kf]? = some v) (hd : decode cc pc = .ok (.getfield ix, 3)) (kk : jx k G A nL n1 n2 ws (pc + 3) lv (v :: st)) : jx k G A nL n1 n2 ws pc lv (.ref a :: st) := by
  obtain ⟨p, l0, e, R, s, m, args, below, meth, c, Q⟩ := k
  obtain ⟨hx, hb, hml, hown, hts, hK, hA, hev, rfl, rfl⟩ := hk
  intro H locs ls hP hD hS hl
  exact va_get (D := G.1) hx hb hts hin hown hK hP q0 he hc kf hkf (hts _ hlk) (fun _ h9 => h9) hv hd (kk H locs ls hP hD hS hl)
theorem jx_getN (hk : jok k cc nL Ts own G A l rm) {C host : String} {T : u_T} {N ci a ix : Nat} {fs : List Value} {v : Value} (hin : ∀ w ∈ u_ws C T N, w ∈ Ts) (q0 : Nat) (he : ws[q0]? = some (job a ci fs)) (hc : vwCl[ci]? = some (C, T, N)) (kf : Nat) (hkf : kf < N) (hlk : Cond.fieldLinkNest own ix (T kf).1 (T kf).2.1 (T kf).2.2.1 host ∈ jnest) (hv : fs[kf]? = some v) (hd : decode cc pc = .ok (.getfield ix, 3)) (kk : jx k G A nL n1 n2 ws (pc + 3) lv (v :: st)) : jx k G A nL n1 n2 ws pc lv (.ref a :: st) := by
  obtain ⟨p, l0, e, R, s, m, args, below, meth, c, Q⟩ := k
  obtain ⟨hx, hb, hml, hown, hts, hK, hA, hev, rfl, rfl⟩ := hk
  intro H locs ls hP hD hS hl
  exact va_getN (D := G.1) hx hb hts hin hown hK hP q0 he hc kf hkf (va_Nw.use rfl (hev.1 _ hlk)) (fun _ h9 => h9) hv hd (kk H locs ls hP hD hS hl)
theorem jx_put (hk : jok k cc nL Ts own G A l rm) {C : String} {T : u_T} {N ci a ix : Nat} {fs : List Value} {v : Value} {ty : FieldType} {ws' : va_W} (hin : ∀ w ∈ u_ws C T N, w ∈ Ts) (ty0 : Nat → FieldType) (hty : ∀ k, k < N → parseFieldDescriptor (T k).2.2.1 = some (ty0 k)) (hnm : ∀ a, a < N → ∀ b, b < N → a ≠ b → (T a).2.1 ≠ (T b).2.1) (q0 : Nat) (he : ws[q0]? = some (job a ci fs)) (hc : vwCl[ci]? = some (C, T, N)) (kf : Nat) (hkf : kf < N) (hlk : Cond.fieldLink own ix (T kf).1 (T kf).2.1 (T kf).2.2.1 ∈ Ts) (hfin : (T kf).2.2.2 = false) (hdty : parseFieldDescriptor (T kf).2.2.1 = some ty) (hnr : narrow ty v = v) (hfit : fits ty v = true) (hl0 : kf < fs.length) (hd : decode cc pc = .ok (.putfield ix, 3)) (hw : ws.set q0 (job a ci (fs.set kf v)) = ws') (kk : jx k G A nL n1 n2 ws' (pc + 3) lv st) : jx k G A nL n1 n2 ws pc lv (v :: .ref a :: st) := by
  obtain ⟨p, l0, e, R, s, m, args, below, meth, c, Q⟩ := k
  obtain ⟨hx, hb, hml, hown, hts, hK, hA, hev, rfl, rfl⟩ := hk
  intro H locs ls hP hD hS hl
  subst hw
  exact va_put (D := G.1) hx hb hts hin ty0 hty hnm hown hK hP hD hS q0 he hc kf hkf (hts _ hlk) (fun _ h9 => h9) hfin hdty hnr hfit hl0 hd (fun H locs hP hD hS => kk H locs ls hP hD hS hl)
theorem jx_putN (hk : jok k cc nL Ts own G A l rm) {C host : String} {T : u_T} {N ci a ix : Nat} {fs : List Value} {v : Value} {ty : FieldType} {ws' : va_W} (hin : ∀ w ∈ u_ws C T N, w ∈ Ts) (ty0 : Nat → FieldType) (hty : ∀ k, k < N → parseFieldDescriptor (T k).2.2.1 = some (ty0 k)) (hnm : ∀ a, a < N → ∀ b, b < N → a ≠ b → (T a).2.1 ≠ (T b).2.1) (q0 : Nat) (he : ws[q0]? = some (job a ci fs)) (hc : vwCl[ci]? = some (C, T, N)) (kf : Nat) (hkf : kf < N) (hlk : Cond.fieldLinkNest own ix (T kf).1 (T kf).2.1 (T kf).2.2.1 host ∈ jnest) (hfin : (T kf).2.2.2 = false) (hdty : parseFieldDescriptor (T kf).2.2.1 = some ty) (hnr : narrow ty v = v) (hfit : fits ty v = true) (hl0 : kf < fs.length) (hd : decode cc pc = .ok (.putfield ix, 3)) (hw : ws.set q0 (job a ci (fs.set kf v)) = ws') (kk : jx k G A nL n1 n2 ws' (pc + 3) lv st) : jx k G A nL n1 n2 ws pc lv (v :: .ref a :: st) := by
  obtain ⟨p, l0, e, R, s, m, args, below, meth, c, Q⟩ := k
  obtain ⟨hx, hb, hml, hown, hts, hK, hA, hev, rfl, rfl⟩ := hk
  intro H locs ls hP hD hS hl
  subst hw
  exact va_putN (D := G.1) hx hb hts hin ty0 hty hnm hown hK hP hD hS q0 he hc kf hkf (va_Nw.use rfl (hev.1 _ hlk)) (fun _ h9 => h9) hfin hdty hnr hfit hl0 hd (fun H locs hP hD hS => kk H locs ls hP hD hS hl)
theorem jx_putF (hk : jok k cc nL Ts own G A l rm) (hi0 : jini k) {C : String} {T : u_T} {N ci a ix : Nat} {fs : List Value} {v : Value} {ty : FieldType} {ws' : va_W} (hin : ∀ w ∈ u_ws C T N, w ∈ Ts) (ty0 : Nat → FieldType) (hty : ∀ k, k < N → parseFieldDescriptor (T k).2.2.1 = some (ty0 k)) (hnm : ∀ a, a < N → ∀ b, b < N → a ≠ b → (T a).2.1 ≠ (T b).2.1) (q0 : Nat) (he : ws[q0]? = some (job a ci fs)) (hc : vwCl[ci]? = some (C, T, N)) (kf : Nat) (hkf : kf < N) (hlk : Cond.fieldLink own ix (T kf).1 (T kf).2.1 (T kf).2.2.1 ∈ Ts) (hfin : (T kf).2.2.2 = true) (hdecl : (T kf).1 = own) (hdty : parseFieldDescriptor (T kf).2.2.1 = some ty) (hnr : narrow ty v = v) (hfit : fits ty v = true) (hl0 : kf < fs.length) (hd : decode cc pc = .ok (.putfield ix, 3)) (hw : ws.set q0 (job a ci (fs.set kf v)) = ws') (kk : jx k G A nL n1 n2 ws' (pc + 3) lv st) : jx k G A nL n1 n2 ws pc lv (v :: .ref a :: st) := by
  obtain ⟨p, l0, e, R, s, m, args, below, meth, c, Q⟩ := k
  obtain ⟨hx, hb, hml, hown, hts, hK, hA, hev, rfl, rfl⟩ := hk
  intro H locs ls hP hD hS hl
  subst hw
  exact va_putF (D := G.1) hx hb hts hin ty0 hty hnm hown hK hP hD hS q0 he hc kf hkf (hts _ hlk) (fun _ h9 => h9) hfin hi0 hdecl hdty hnr hfit hl0 hd (fun H locs hP hD hS => kk H locs ls hP hD hS hl)
theorem jx_mmax (hk : jok k cc nL Ts own G A l rm) {x y : Int32} {ix : Nat} (hd : decode cc pc = .ok (.invokestatic ix, 3)) (h1 : Cond.methodLink own ix Lib.Math.max.name ∈ Ts) (h2 : Cond.static Lib.Math.max.name ∈ Ts) (h3 : Cond.initialized "java/lang/Math" ∈ Ts) (h4 : Cond.code Lib.Math.max.name Lib.Math.max.code 2 (some .int) ∈ Ts) (hf : 1 ≤ rm.frames) (hl0 : (st.map fun v => v.category).sum + 13 ≤ rm.locals) (hc : n1 ≤ rm.cells) (hs : n2 ≤ rm.slots) (kk : jx k G A nL n1 n2 ws (pc + 3) lv (.int (if x < y then y else x) :: st)) : jx k G A nL n1 n2 ws pc lv (.int y :: .int x :: st) := by
  obtain ⟨p, l0, e, R, s, m, args, below, meth, c, Q⟩ := k
  obtain ⟨hx, hb, hml, hown, hts, hK, hA, hev, rfl, rfl⟩ := hk
  intro H locs ls hP hD hS hl
  exact va_mmax hx hb (hml.trans hl.1.symm) hown (hts _ h1) (hts _ h2) (hts _ h3) (hts _ h4) hf hl0 hc hs hd (kk H locs ls hP hD hS hl)
theorem jx_mmin (hk : jok k cc nL Ts own G A l rm) {x y : Int32} {ix : Nat} (hd : decode cc pc = .ok (.invokestatic ix, 3)) (h1 : Cond.methodLink own ix Lib.Math.min.name ∈ Ts) (h2 : Cond.static Lib.Math.min.name ∈ Ts) (h3 : Cond.initialized "java/lang/Math" ∈ Ts) (h4 : Cond.code Lib.Math.min.name Lib.Math.min.code 2 (some .int) ∈ Ts) (hf : 1 ≤ rm.frames) (hl0 : (st.map fun v => v.category).sum + 13 ≤ rm.locals) (hc : n1 ≤ rm.cells) (hs : n2 ≤ rm.slots) (kk : jx k G A nL n1 n2 ws (pc + 3) lv (.int (if y < x then y else x) :: st)) : jx k G A nL n1 n2 ws pc lv (.int y :: .int x :: st) := by
  obtain ⟨p, l0, e, R, s, m, args, below, meth, c, Q⟩ := k
  obtain ⟨hx, hb, hml, hown, hts, hK, hA, hev, rfl, rfl⟩ := hk
  intro H locs ls hP hD hS hl
  exact va_mmin hx hb (hml.trans hl.1.symm) hown (hts _ h1) (hts _ h2) (hts _ h3) (hts _ h4) hf hl0 hc hs hd (kk H locs ls hP hD hS hl)
theorem jx_copyi (hk : jok k cc nL Ts own G A l rm) {a0 a1 m0 m1 : Nat} {f g : Nat → Int32} {sp dp n : Int32} {ix : Nat} {ws' : va_W} (hd : decode cc pc = .ok (.invokestatic ix, 3)) (h1 : Cond.methodLink own ix arraycopyName ∈ Ts) (h2 : Cond.native arraycopyName ∈ Ts) (h3 : Cond.static arraycopyName ∈ Ts) (h4 : Cond.initialized "java/lang/System" ∈ Ts) (q0 q1 : Nat) (ha0 : ws[q0]? = some (jai G a0 m0 f)) (ha1 : ws[q1]? = some (jai G a1 m1 g)) (b1 : ¬ sp < 0) (b2 : ¬ dp < 0) (b3 : ¬ n < 0) (b4 : sp.toNatClampNeg + n.toNatClampNeg ≤ m0) (b5 : dp.toNatClampNeg + n.toNatClampNeg ≤ m1) (hf : 1 ≤ rm.frames) (hl0 : (st.map fun v => v.category).sum + (nativeFrameWords "java/lang/System" "arraycopy" 5 + 11) ≤ rm.locals) (hw : ws.set q1 (jai G a1 m1 (va_cpy f g sp.toNatClampNeg dp.toNatClampNeg n.toNatClampNeg)) = ws') (kk : jx k G A nL n1 n2 ws' (pc + 3) lv st) : jx k G A nL n1 n2 ws pc lv (.int n :: .int dp :: .ref a1 :: .int sp :: .ref a0 :: st) := by
  obtain ⟨p, l0, e, R, s, m, args, below, meth, c, Q⟩ := k
  obtain ⟨hx, hb, hml, hown, hts, hK, hA, hev, rfl, rfl⟩ := hk
  intro H locs ls hP hD hS hl
  subst hw
  exact va_copyi hx hb (hml.trans hl.1.symm) hown (hts _ h1) (hts _ h2) (hts _ h3) (hts _ h4) hK hP hD hS q0 q1 0 0 (ty := .int) ha0 ha1 rfl rfl rfl b1 b2 b3 b4 b5 (fun _ _ => rfl) hf hl0 hd (fun H locs hP hD hS => kk H locs ls hP hD hS hl)
theorem jx_gs_LOWEST (hk : jok k cc nL Ts own G A l rm) {ix : Nat} (hlk : Cond.fieldLink own ix "InkSwaths" "LOWEST" "[I" ∈ Ts) (hd : decode cc pc = .ok (.getstatic ix, 3)) (kk : jx k G A nL n1 n2 ws (pc + 3) lv (.ref G.2.2.2.1 :: st)) : jx k G A nL n1 n2 ws pc lv st := by
  obtain ⟨p, l0, e, R, s, m, args, below, meth, c, Q⟩ := k
  obtain ⟨hx, hb, hml, hown, hts, hK, hA, hev, rfl, rfl⟩ := hk
  intro H locs ls hP hD hS hl
  exact va_gets hx hb hev.2.2.2.1.1 hS hown (hts _ hlk) (fun _ h => h) hd (kk H locs ls hP hD hS hl)
theorem jx_ts_LOWEST (hk : jok k cc nL Ts own G A l rm) {i : Int32} (hd : decode cc pc = .ok (.iaload, 1)) (hin : vp_in i 9) (kk : jx k G A nL n1 n2 ws (pc + 1) lv (.int (jtL i.toNatClampNeg) :: st)) : jx k G A nL n1 n2 ws pc lv (.int i :: .ref G.2.2.2.1 :: st) := by
  obtain ⟨p, l0, e, R, s, m, args, below, meth, c, Q⟩ := k
  obtain ⟨hx, hb, hml, hown, hts, hK, hA, hev, rfl, rfl⟩ := hk
  intro H locs ls hP hD hS hl
  exact va_ti hx hb hev.2.2.2.1.2 hS hin rfl hd (kk H locs ls hP hD hS hl)
theorem jx_tl_LOWEST (hk : jok k cc nL Ts own G A l rm) {v : Int32} (hd : decode cc pc = .ok (.arraylength, 1)) (hv : Int32.ofNat 9 = v) (kk : jx k G A nL n1 n2 ws (pc + 1) lv (.int v :: st)) : jx k G A nL n1 n2 ws pc lv (.ref G.2.2.2.1 :: st) := by
  obtain ⟨p, l0, e, R, s, m, args, below, meth, c, Q⟩ := k
  obtain ⟨hx, hb, hml, hown, hts, hK, hA, hev, rfl, rfl⟩ := hk
  intro H locs ls hP hD hS hl
  exact va_tlen hx hb hev.2.2.2.1.2 hS hv hd (kk H locs ls hP hD hS hl)
theorem jx_ts_LOWESTC (hk : jok k cc nL Ts own G A l rm) {j : Nat} {i : Int32} (hd : decode cc pc = .ok (.iaload, 1)) (hj : (decide (¬ (i < 0 ∨ 9 ≤ i.toNatClampNeg)) && decide (i.toNatClampNeg = j)) = true) (kk : jx k G A nL n1 n2 ws (pc + 1) lv (.int (jtL j) :: st)) : jx k G A nL n1 n2 ws pc lv (.int i :: .ref G.2.2.2.1 :: st) := by
  obtain ⟨p, l0, e, R, s, m, args, below, meth, c, Q⟩ := k
  obtain ⟨hx, hb, hml, hown, hts, hK, hA, hev, rfl, rfl⟩ := hk
  intro H locs ls hP hD hS hl
  obtain ⟨hin, rfl⟩ := jx_inC hj
  exact va_ti hx hb hev.2.2.2.1.2 hS hin rfl hd (kk H locs ls hP hD hS hl)
theorem jx_gs_HIGHEST (hk : jok k cc nL Ts own G A l rm) {ix : Nat} (hlk : Cond.fieldLink own ix "InkSwaths" "HIGHEST" "[I" ∈ Ts) (hd : decode cc pc = .ok (.getstatic ix, 3)) (kk : jx k G A nL n1 n2 ws (pc + 3) lv (.ref G.2.2.2.2.1 :: st)) : jx k G A nL n1 n2 ws pc lv st := by
  obtain ⟨p, l0, e, R, s, m, args, below, meth, c, Q⟩ := k
  obtain ⟨hx, hb, hml, hown, hts, hK, hA, hev, rfl, rfl⟩ := hk
  intro H locs ls hP hD hS hl
  exact va_gets hx hb hev.2.2.2.2.1.1 hS hown (hts _ hlk) (fun _ h => h) hd (kk H locs ls hP hD hS hl)
theorem jx_ts_HIGHEST (hk : jok k cc nL Ts own G A l rm) {i : Int32} (hd : decode cc pc = .ok (.iaload, 1)) (hin : vp_in i 9) (kk : jx k G A nL n1 n2 ws (pc + 1) lv (.int (jtH i.toNatClampNeg) :: st)) : jx k G A nL n1 n2 ws pc lv (.int i :: .ref G.2.2.2.2.1 :: st) := by
  obtain ⟨p, l0, e, R, s, m, args, below, meth, c, Q⟩ := k
  obtain ⟨hx, hb, hml, hown, hts, hK, hA, hev, rfl, rfl⟩ := hk
  intro H locs ls hP hD hS hl
  exact va_ti hx hb hev.2.2.2.2.1.2 hS hin rfl hd (kk H locs ls hP hD hS hl)
theorem jx_tl_HIGHEST (hk : jok k cc nL Ts own G A l rm) {v : Int32} (hd : decode cc pc = .ok (.arraylength, 1)) (hv : Int32.ofNat 9 = v) (kk : jx k G A nL n1 n2 ws (pc + 1) lv (.int v :: st)) : jx k G A nL n1 n2 ws pc lv (.ref G.2.2.2.2.1 :: st) := by
  obtain ⟨p, l0, e, R, s, m, args, below, meth, c, Q⟩ := k
  obtain ⟨hx, hb, hml, hown, hts, hK, hA, hev, rfl, rfl⟩ := hk
  intro H locs ls hP hD hS hl
  exact va_tlen hx hb hev.2.2.2.2.1.2 hS hv hd (kk H locs ls hP hD hS hl)
theorem jx_ts_HIGHESTC (hk : jok k cc nL Ts own G A l rm) {j : Nat} {i : Int32} (hd : decode cc pc = .ok (.iaload, 1)) (hj : (decide (¬ (i < 0 ∨ 9 ≤ i.toNatClampNeg)) && decide (i.toNatClampNeg = j)) = true) (kk : jx k G A nL n1 n2 ws (pc + 1) lv (.int (jtH j) :: st)) : jx k G A nL n1 n2 ws pc lv (.int i :: .ref G.2.2.2.2.1 :: st) := by
  obtain ⟨p, l0, e, R, s, m, args, below, meth, c, Q⟩ := k
  obtain ⟨hx, hb, hml, hown, hts, hK, hA, hev, rfl, rfl⟩ := hk
  intro H locs ls hP hD hS hl
  obtain ⟨hin, rfl⟩ := jx_inC hj
  exact va_ti hx hb hev.2.2.2.2.1.2 hS hin rfl hd (kk H locs ls hP hD hS hl)
theorem jx_gs_BETTER_BY (hk : jok k cc nL Ts own G A l rm) {ix : Nat} (hlk : Cond.fieldLink own ix "InkSwaths" "BETTER_BY" "[I" ∈ Ts) (hd : decode cc pc = .ok (.getstatic ix, 3)) (kk : jx k G A nL n1 n2 ws (pc + 3) lv (.ref G.2.2.2.2.2 :: st)) : jx k G A nL n1 n2 ws pc lv st := by
  obtain ⟨p, l0, e, R, s, m, args, below, meth, c, Q⟩ := k
  obtain ⟨hx, hb, hml, hown, hts, hK, hA, hev, rfl, rfl⟩ := hk
  intro H locs ls hP hD hS hl
  exact va_gets hx hb hev.2.2.2.2.2.1 hS hown (hts _ hlk) (fun _ h => h) hd (kk H locs ls hP hD hS hl)
theorem jx_ts_BETTER_BY (hk : jok k cc nL Ts own G A l rm) {i : Int32} (hd : decode cc pc = .ok (.iaload, 1)) (hin : vp_in i 3) (kk : jx k G A nL n1 n2 ws (pc + 1) lv (.int (jtB i.toNatClampNeg) :: st)) : jx k G A nL n1 n2 ws pc lv (.int i :: .ref G.2.2.2.2.2 :: st) := by
  obtain ⟨p, l0, e, R, s, m, args, below, meth, c, Q⟩ := k
  obtain ⟨hx, hb, hml, hown, hts, hK, hA, hev, rfl, rfl⟩ := hk
  intro H locs ls hP hD hS hl
  exact va_ti hx hb hev.2.2.2.2.2.2 hS hin rfl hd (kk H locs ls hP hD hS hl)
theorem jx_tl_BETTER_BY (hk : jok k cc nL Ts own G A l rm) {v : Int32} (hd : decode cc pc = .ok (.arraylength, 1)) (hv : Int32.ofNat 3 = v) (kk : jx k G A nL n1 n2 ws (pc + 1) lv (.int v :: st)) : jx k G A nL n1 n2 ws pc lv (.ref G.2.2.2.2.2 :: st) := by
  obtain ⟨p, l0, e, R, s, m, args, below, meth, c, Q⟩ := k
  obtain ⟨hx, hb, hml, hown, hts, hK, hA, hev, rfl, rfl⟩ := hk
  intro H locs ls hP hD hS hl
  exact va_tlen hx hb hev.2.2.2.2.2.2 hS hv hd (kk H locs ls hP hD hS hl)
theorem jx_ts_BETTER_BYC (hk : jok k cc nL Ts own G A l rm) {j : Nat} {i : Int32} (hd : decode cc pc = .ok (.iaload, 1)) (hj : (decide (¬ (i < 0 ∨ 3 ≤ i.toNatClampNeg)) && decide (i.toNatClampNeg = j)) = true) (kk : jx k G A nL n1 n2 ws (pc + 1) lv (.int (jtB j) :: st)) : jx k G A nL n1 n2 ws pc lv (.int i :: .ref G.2.2.2.2.2 :: st) := by
  obtain ⟨p, l0, e, R, s, m, args, below, meth, c, Q⟩ := k
  obtain ⟨hx, hb, hml, hown, hts, hK, hA, hev, rfl, rfl⟩ := hk
  intro H locs ls hP hD hS hl
  obtain ⟨hin, rfl⟩ := jx_inC hj
  exact va_ti hx hb hev.2.2.2.2.2.2 hS hin rfl hd (kk H locs ls hP hD hS hl)
end JX
def jmi (l : Launch) (y : MethodName) (wy : List Cond) (rm : Room) (G : jG) (av : List Value) (w0 : va_W) {S : Type} (w1 : S → va_W) (post : Int32 → S → Prop) (mc ms : Nat) : Prop := ∀ sz : Nat, Met l y wy rm (va_Pc av (fun U => U.heap.size = sz ∧ va_P G.1 vwCl w0 U.heap ∧ va_K G.1 vwCl (jty G) U ∧ va_D (fun _ => True) w0 ∧ jev G (va_A w0 sz) U U.heap)) (va_Qi post (fun u t => va_P G.1 vwCl (w1 u) t.heap ∧ va_K G.1 vwCl (jty G) t ∧ va_D (va_A w0 sz) (w1 u)) (va_A w0 sz)) mc ms (va_A w0 sz)
def jml (l : Launch) (y : MethodName) (wy : List Cond) (rm : Room) (G : jG) (av : List Value) (w0 : va_W) {S : Type} (w1 : S → va_W) (post : Int64 → S → Prop) (mc ms : Nat) : Prop := ∀ sz : Nat, Met l y wy rm (va_Pc av (fun U => U.heap.size = sz ∧ va_P G.1 vwCl w0 U.heap ∧ va_K G.1 vwCl (jty G) U ∧ va_D (fun _ => True) w0 ∧ jev G (va_A w0 sz) U U.heap)) (va_Ql post (fun u t => va_P G.1 vwCl (w1 u) t.heap ∧ va_K G.1 vwCl (jty G) t ∧ va_D (va_A w0 sz) (w1 u)) (va_A w0 sz)) mc ms (va_A w0 sz)
def jmv (l : Launch) (y : MethodName) (wy : List Cond) (rm : Room) (G : jG) (av : List Value) (w0 : va_W) {S : Type} (w1 : S → va_W) (post : S → Prop) (mc ms : Nat) : Prop := ∀ sz : Nat, Met l y wy rm (va_Pc av (fun U => U.heap.size = sz ∧ va_P G.1 vwCl w0 U.heap ∧ va_K G.1 vwCl (jty G) U ∧ va_D (fun _ => True) w0 ∧ jev G (va_A w0 sz) U U.heap)) (va_Qv post (fun u t => va_P G.1 vwCl (w1 u) t.heap ∧ va_K G.1 vwCl (jty G) t ∧ va_D (va_A w0 sz) (w1 u)) (va_A w0 sz)) mc ms (va_A w0 sz)
set_option maxHeartbeats 1000000 in
theorem jm_i {l : Launch} {y : MethodName} {wy wy0 : List Cond} {rm : Room} {G : jG} {av : List Value} {w0 : va_W} {S : Type} {w1 : S → va_W} {post : Int32 → S → Prop} {mc ms : Nat} {cc : ByteArray} {maxL : Nat} (hy : plainName y.cls = true) (hw : wy = Cond.code y cc maxL (some .int) :: wy0) (hlen : (lg_sl av).length ≤ maxL)
    (body : ∀ (k : jK) (A : Nat → Prop), jok k cc maxL wy y.cls G A l rm → (y.name = "<init>" → jini k) → (∀ (r : Int32) (u : S) (pc : Nat) (lv : List (Nat × Value)), decode cc pc = .ok (.ireturn, 1) → post r u → jx k G A maxL mc ms (w1 u) pc lv [.int r]) → jx k G A maxL 0 0 w0 0 (lv_args 0 av) []) : jmi l y wy rm G av w0 w1 post mc ms := by
  intro sz
  refine Met.ofW (cc := cc) (maxL := maxL) (ret := (some .int)) hy hw ?_
  intro p e s m args below meth c s₁ B hml hv
  obtain ⟨rfl, hsz, hP, hK, hD0, hev⟩ := hv
  have hx := B.exec
  have hb := B.bytes
  have hr := B.returns
  have hts := atoms_spec (ws := wy) B.pre
  have hown : s.vm.findClass y.cls = some m.cls := findClass_of_methodNamed B.named
  have hlocks := B.notSynchronized
  have hin : y.name = "<init>" → meth.name = "<init>" := fun h => (name_of_methodNamed B.named B.method).1.trans h
  subst hsz
  have hD := hD0.self (sz := s.heap.size)
  generalize hAe : va_A w0 s.heap.size = A at hD hev ⊢
  have hA : ∀ q : Nat, s.heap.size ≤ q → A q := fun q h => by rw [← hAe]; exact Or.inr h
  have hS : va_S A s.heap s.heap [] := va_S.rf
  have hl := lv_entry av (n := maxL) hlen
  rw [lg_entry_eq]
  refine body (p, l, e, (headSpec wy rm).room, s, m, av.toArray, below, meth, c, _) A ⟨hx, hb, hml, hown, hts, hK, hA, hev, rfl, rfl⟩ hin ?_ s.heap [] _ hP hD hS hl
  intro r u pc lv hd hp H locs ls hP hD hS hl
  exact W.iret hx hb hr (fun t ht hW => ⟨⟨r, u, rfl, hp, by rw [ht]; exact hP, va_K.moved hW.alike hK, hD⟩, hS.F ht⟩) hS.2.2 hd
set_option maxHeartbeats 1000000 in
theorem jm_z {l : Launch} {y : MethodName} {wy wy0 : List Cond} {rm : Room} {G : jG} {av : List Value} {w0 : va_W} {S : Type} {w1 : S → va_W} {post : Int32 → S → Prop} {mc ms : Nat} {cc : ByteArray} {maxL : Nat} (hy : plainName y.cls = true) (hw : wy = Cond.code y cc maxL (some .boolean) :: wy0) (hlen : (lg_sl av).length ≤ maxL)
    (body : ∀ (k : jK) (A : Nat → Prop), jok k cc maxL wy y.cls G A l rm → (y.name = "<init>" → jini k) → (∀ (r : Int32) (u : S) (pc : Nat) (lv : List (Nat × Value)), decode cc pc = .ok (.ireturn, 1) → narrow .boolean (.int r) = .int r → post r u → jx k G A maxL mc ms (w1 u) pc lv [.int r]) → jx k G A maxL 0 0 w0 0 (lv_args 0 av) []) : jmi l y wy rm G av w0 w1 post mc ms := by
  intro sz
  refine Met.ofW (cc := cc) (maxL := maxL) (ret := (some .boolean)) hy hw ?_
  intro p e s m args below meth c s₁ B hml hv
  obtain ⟨rfl, hsz, hP, hK, hD0, hev⟩ := hv
  have hx := B.exec
  have hb := B.bytes
  have hr := B.returns
  have hts := atoms_spec (ws := wy) B.pre
  have hown : s.vm.findClass y.cls = some m.cls := findClass_of_methodNamed B.named
  have hlocks := B.notSynchronized
  have hin : y.name = "<init>" → meth.name = "<init>" := fun h => (name_of_methodNamed B.named B.method).1.trans h
  subst hsz
  have hD := hD0.self (sz := s.heap.size)
  generalize hAe : va_A w0 s.heap.size = A at hD hev ⊢
  have hA : ∀ q : Nat, s.heap.size ≤ q → A q := fun q h => by rw [← hAe]; exact Or.inr h
  have hS : va_S A s.heap s.heap [] := va_S.rf
  have hl := lv_entry av (n := maxL) hlen
  rw [lg_entry_eq]
  refine body (p, l, e, (headSpec wy rm).room, s, m, av.toArray, below, meth, c, _) A ⟨hx, hb, hml, hown, hts, hK, hA, hev, rfl, rfl⟩ hin ?_ s.heap [] _ hP hD hS hl
  intro r u pc lv hd hz hp H locs ls hP hD hS hl
  exact W.zret hx hb hr hz (fun t ht hW => ⟨⟨r, u, rfl, hp, by rw [ht]; exact hP, va_K.moved hW.alike hK, hD⟩, hS.F ht⟩) hS.2.2 hd
set_option maxHeartbeats 1000000 in
theorem jm_l {l : Launch} {y : MethodName} {wy wy0 : List Cond} {rm : Room} {G : jG} {av : List Value} {w0 : va_W} {S : Type} {w1 : S → va_W} {post : Int64 → S → Prop} {mc ms : Nat} {cc : ByteArray} {maxL : Nat} (hy : plainName y.cls = true) (hw : wy = Cond.code y cc maxL (some .long) :: wy0) (hlen : (lg_sl av).length ≤ maxL)
    (body : ∀ (k : jK) (A : Nat → Prop), jok k cc maxL wy y.cls G A l rm → (y.name = "<init>" → jini k) → (∀ (r : Int64) (u : S) (pc : Nat) (lv : List (Nat × Value)), decode cc pc = .ok (.lreturn, 1) → post r u → jx k G A maxL mc ms (w1 u) pc lv [.long r]) → jx k G A maxL 0 0 w0 0 (lv_args 0 av) []) : jml l y wy rm G av w0 w1 post mc ms := by
  intro sz
  refine Met.ofW (cc := cc) (maxL := maxL) (ret := (some .long)) hy hw ?_
  intro p e s m args below meth c s₁ B hml hv
  obtain ⟨rfl, hsz, hP, hK, hD0, hev⟩ := hv
  have hx := B.exec
  have hb := B.bytes
  have hr := B.returns
  have hts := atoms_spec (ws := wy) B.pre
  have hown : s.vm.findClass y.cls = some m.cls := findClass_of_methodNamed B.named
  have hlocks := B.notSynchronized
  have hin : y.name = "<init>" → meth.name = "<init>" := fun h => (name_of_methodNamed B.named B.method).1.trans h
  subst hsz
  have hD := hD0.self (sz := s.heap.size)
  generalize hAe : va_A w0 s.heap.size = A at hD hev ⊢
  have hA : ∀ q : Nat, s.heap.size ≤ q → A q := fun q h => by rw [← hAe]; exact Or.inr h
  have hS : va_S A s.heap s.heap [] := va_S.rf
  have hl := lv_entry av (n := maxL) hlen
  rw [lg_entry_eq]
  refine body (p, l, e, (headSpec wy rm).room, s, m, av.toArray, below, meth, c, _) A ⟨hx, hb, hml, hown, hts, hK, hA, hev, rfl, rfl⟩ hin ?_ s.heap [] _ hP hD hS hl
  intro r u pc lv hd hp H locs ls hP hD hS hl
  exact W.lret hx hb hr (fun t ht hW => ⟨⟨r, u, rfl, hp, by rw [ht]; exact hP, va_K.moved hW.alike hK, hD⟩, hS.F ht⟩) hS.2.2 hd
set_option maxHeartbeats 1000000 in
theorem jm_v {l : Launch} {y : MethodName} {wy wy0 : List Cond} {rm : Room} {G : jG} {av : List Value} {w0 : va_W} {S : Type} {w1 : S → va_W} {post : S → Prop} {mc ms : Nat} {cc : ByteArray} {maxL : Nat} (hy : plainName y.cls = true) (hw : wy = Cond.code y cc maxL none :: wy0) (hlen : (lg_sl av).length ≤ maxL)
    (body : ∀ (k : jK) (A : Nat → Prop), jok k cc maxL wy y.cls G A l rm → (y.name = "<init>" → jini k) → (∀ (u : S) (pc : Nat) (lv : List (Nat × Value)), decode cc pc = .ok (.return_, 1) → post u → jx k G A maxL mc ms (w1 u) pc lv []) → jx k G A maxL 0 0 w0 0 (lv_args 0 av) []) : jmv l y wy rm G av w0 w1 post mc ms := by
  intro sz
  refine Met.ofW (cc := cc) (maxL := maxL) (ret := none) hy hw ?_
  intro p e s m args below meth c s₁ B hml hv
  obtain ⟨rfl, hsz, hP, hK, hD0, hev⟩ := hv
  have hx := B.exec
  have hb := B.bytes
  have hr := B.returns
  have hts := atoms_spec (ws := wy) B.pre
  have hown : s.vm.findClass y.cls = some m.cls := findClass_of_methodNamed B.named
  have hlocks := B.notSynchronized
  have hin : y.name = "<init>" → meth.name = "<init>" := fun h => (name_of_methodNamed B.named B.method).1.trans h
  subst hsz
  have hD := hD0.self (sz := s.heap.size)
  generalize hAe : va_A w0 s.heap.size = A at hD hev ⊢
  have hA : ∀ q : Nat, s.heap.size ≤ q → A q := fun q h => by rw [← hAe]; exact Or.inr h
  have hS : va_S A s.heap s.heap [] := va_S.rf
  have hl := lv_entry av (n := maxL) hlen
  rw [lg_entry_eq]
  refine body (p, l, e, (headSpec wy rm).room, s, m, av.toArray, below, meth, c, _) A ⟨hx, hb, hml, hown, hts, hK, hA, hev, rfl, rfl⟩ hin ?_ s.heap [] _ hP hD hS hl
  intro u pc lv hd hp H locs ls hP hD hS hl
  exact W.vret hx hb hr (fun t ht hW => ⟨⟨u, rfl, hp, by rw [ht]; exact hP, va_K.moved hW.alike hK, hD⟩, hS.F ht⟩) hS.2.2 hd
section JC
variable {k : jK} {cc : ByteArray} {nL : Nat} {Ts : List Cond} {own : String} {G : jG} {A : Nat → Prop} {l : Launch} {rm : Room} {n1 n2 : Nat} {ws : va_W} {pc : Nat} {lv : List (Nat × Value)} {st st0 : List Value} {S : Type} {w0 wr : va_W} {w1 ws2 : S → va_W} {y : MethodName} {bytes : ByteArray} {maxL ix mc ms : Nat} {ret : Option FieldType} {wy wy0 : List Cond} {rmy : Room} {As : List Value} {b : Nat}
theorem jx_callVi (hk : jok k cc nL Ts own G A l rm) {post : Int32 → S → Prop} (hM : jmi l y wy rmy G (.ref b :: As) w0 w1 post mc ms) {C : String} {T0 : u_T} {N0 ci : Nat} {fs : List Value} (q0 : Nat) (hrv : w0[q0]? = some (job b ci fs)) (hci : vwCl[ci]? = some (C, T0, N0)) (hg : GoodIn Ts (wsV own ix C y wy)) (hdn : y.cls = C ∧ y.cls ≠ "java/lang/invoke/MethodHandle" ∧ y.cls ≠ "java/lang/invoke/VarHandle" ∧ (parseMethodDescriptor y.desc).map (fun d => d.parameters.length) = some As.length) (hw : wy = Cond.code y bytes maxL ret :: wy0) (hrc : rmy.cells = mc) (hrs : rmy.slots = ms) (hR : rmy.frames + 1 ≤ rm.frames ∧ 8 + (maxL + 11) + rmy.locals ≤ rm.locals) (isC isR isB : List Nat) (hC : isC.map (fun i => ws[i]?) = w0.map some) (hR0 : isR.map (fun i => ws[i]?) = wr.map some) (hnC : va_nd isC = true) (hnR : va_nd isR = true) (hdis : ∀ i ∈ isR, i ∉ isC) (hnB : va_nd isB = true) (hB0 : ∀ u, isB.map (fun i => (wr ++ w1 u)[i]?) = (ws2 u).map some) (hd : decode cc pc = .ok (.invokevirtual ix, 3)) (hst : st0 = As.reverse ++ .ref b :: st) (hcat : (st.map fun v => v.category).sum ≤ 8) (hroom : n1 + mc ≤ rm.cells ∧ n2 + ms ≤ rm.slots) (kk : ∀ (r : Int32) (u : S), post r u → jx k G A nL (n1 + mc) (n2 + ms) (ws2 u) (pc + 3) lv (.int r :: st)) : jx k G A nL n1 n2 ws pc lv st0 := by
  obtain ⟨p, l0, e, R, s, m, args, below, meth, c, Q⟩ := k
  obtain ⟨hx, hb, hml, hown, hts, hK, hA, hev, rfl, rfl⟩ := hk
  intro H locs ls hP hD hS hl
  have hPc := hP.sub isC (jx_fm hC)
  have hDc := hD.sub isC hnC hC
  have hFc := va_free hD hS hA isC hC
  have hevc : jev G (va_A w0 H.size) s H := (hev.kept (fun a h1 h2 => hS.2.1 a h1 h2)).narrow hFc
  subst hst
  refine va_calli (va_runV (C := C) (b := b) (As := As) (rest := st) ⟨hx, hb, hml, hown, hts⟩ (hM H.size) (cwV _ hts hg hw hrc hrs hdn hR) ⟨fun a U g mk q => by obtain ⟨q0, q1, qP, qK, qD, qE⟩ := q; exact ⟨q0, q1, qP, va_K.moved (u := U) (U := U.calling g mk a) (Vm.Alike.refl U.vm) qK, qD, jev.same (u := U) (U := U.calling g mk a) rfl qE⟩, va_recv hK hPc hci hrv, fun U hU hW => ⟨rfl, by rw [hU], by rw [hU]; exact hPc, va_K.moved hW.alike hK, hDc.weaken (fun _ _ _ _ => trivial), by rw [hU]; exact hevc.warm hW⟩⟩ rfl rfl hl.1 rfl (lv_room hcat) hd hroom) hS (fun q _ h => hFc q h) hFc (fun r u t H1 locs1 ht hvm hp hB hz1 hk1 hS1 => ?_)
  obtain ⟨hP1, hK1, hD1⟩ := hB
  rw [ht] at hP1
  obtain ⟨hP2, hD2⟩ := va_join hP hD isC isR hC hR0 hnR hdis hk1 hFc hP1 hD1
  exact kk r u hp H1 locs1 ls (hP2.sub isB (jx_fm (hB0 u))) (hD2.sub isB hnB (hB0 u)) hS1 hl
theorem jx_callVl (hk : jok k cc nL Ts own G A l rm) {post : Int64 → S → Prop} (hM : jml l y wy rmy G (.ref b :: As) w0 w1 post mc ms) {C : String} {T0 : u_T} {N0 ci : Nat} {fs : List Value} (q0 : Nat) (hrv : w0[q0]? = some (job b ci fs)) (hci : vwCl[ci]? = some (C, T0, N0)) (hg : GoodIn Ts (wsV own ix C y wy)) (hdn : y.cls = C ∧ y.cls ≠ "java/lang/invoke/MethodHandle" ∧ y.cls ≠ "java/lang/invoke/VarHandle" ∧ (parseMethodDescriptor y.desc).map (fun d => d.parameters.length) = some As.length) (hw : wy = Cond.code y bytes maxL ret :: wy0) (hrc : rmy.cells = mc) (hrs : rmy.slots = ms) (hR : rmy.frames + 1 ≤ rm.frames ∧ 8 + (maxL + 11) + rmy.locals ≤ rm.locals) (isC isR isB : List Nat) (hC : isC.map (fun i => ws[i]?) = w0.map some) (hR0 : isR.map (fun i => ws[i]?) = wr.map some) (hnC : va_nd isC = true) (hnR : va_nd isR = true) (hdis : ∀ i ∈ isR, i ∉ isC) (hnB : va_nd isB = true) (hB0 : ∀ u, isB.map (fun i => (wr ++ w1 u)[i]?) = (ws2 u).map some) (hd : decode cc pc = .ok (.invokevirtual ix, 3)) (hst : st0 = As.reverse ++ .ref b :: st) (hcat : (st.map fun v => v.category).sum ≤ 8) (hroom : n1 + mc ≤ rm.cells ∧ n2 + ms ≤ rm.slots) (kk : ∀ (r : Int64) (u : S), post r u → jx k G A nL (n1 + mc) (n2 + ms) (ws2 u) (pc + 3) lv (.long r :: st)) : jx k G A nL n1 n2 ws pc lv st0 := by
  obtain ⟨p, l0, e, R, s, m, args, below, meth, c, Q⟩ := k
  obtain ⟨hx, hb, hml, hown, hts, hK, hA, hev, rfl, rfl⟩ := hk
  intro H locs ls hP hD hS hl
  have hPc := hP.sub isC (jx_fm hC)
  have hDc := hD.sub isC hnC hC
  have hFc := va_free hD hS hA isC hC
  have hevc : jev G (va_A w0 H.size) s H := (hev.kept (fun a h1 h2 => hS.2.1 a h1 h2)).narrow hFc
  subst hst
  refine va_calll (va_runV (C := C) (b := b) (As := As) (rest := st) ⟨hx, hb, hml, hown, hts⟩ (hM H.size) (cwV _ hts hg hw hrc hrs hdn hR) ⟨fun a U g mk q => by obtain ⟨q0, q1, qP, qK, qD, qE⟩ := q; exact ⟨q0, q1, qP, va_K.moved (u := U) (U := U.calling g mk a) (Vm.Alike.refl U.vm) qK, qD, jev.same (u := U) (U := U.calling g mk a) rfl qE⟩, va_recv hK hPc hci hrv, fun U hU hW => ⟨rfl, by rw [hU], by rw [hU]; exact hPc, va_K.moved hW.alike hK, hDc.weaken (fun _ _ _ _ => trivial), by rw [hU]; exact hevc.warm hW⟩⟩ rfl rfl hl.1 rfl (lv_room hcat) hd hroom) hS (fun q _ h => hFc q h) hFc (fun r u t H1 locs1 ht hvm hp hB hz1 hk1 hS1 => ?_)
  obtain ⟨hP1, hK1, hD1⟩ := hB
  rw [ht] at hP1
  obtain ⟨hP2, hD2⟩ := va_join hP hD isC isR hC hR0 hnR hdis hk1 hFc hP1 hD1
  exact kk r u hp H1 locs1 ls (hP2.sub isB (jx_fm (hB0 u))) (hD2.sub isB hnB (hB0 u)) hS1 hl
theorem jx_callVv (hk : jok k cc nL Ts own G A l rm) {post : S → Prop} (hM : jmv l y wy rmy G (.ref b :: As) w0 w1 post mc ms) {C : String} {T0 : u_T} {N0 ci : Nat} {fs : List Value} (q0 : Nat) (hrv : w0[q0]? = some (job b ci fs)) (hci : vwCl[ci]? = some (C, T0, N0)) (hg : GoodIn Ts (wsV own ix C y wy)) (hdn : y.cls = C ∧ y.cls ≠ "java/lang/invoke/MethodHandle" ∧ y.cls ≠ "java/lang/invoke/VarHandle" ∧ (parseMethodDescriptor y.desc).map (fun d => d.parameters.length) = some As.length) (hw : wy = Cond.code y bytes maxL ret :: wy0) (hrc : rmy.cells = mc) (hrs : rmy.slots = ms) (hR : rmy.frames + 1 ≤ rm.frames ∧ 8 + (maxL + 11) + rmy.locals ≤ rm.locals) (isC isR isB : List Nat) (hC : isC.map (fun i => ws[i]?) = w0.map some) (hR0 : isR.map (fun i => ws[i]?) = wr.map some) (hnC : va_nd isC = true) (hnR : va_nd isR = true) (hdis : ∀ i ∈ isR, i ∉ isC) (hnB : va_nd isB = true) (hB0 : ∀ u, isB.map (fun i => (wr ++ w1 u)[i]?) = (ws2 u).map some) (hd : decode cc pc = .ok (.invokevirtual ix, 3)) (hst : st0 = As.reverse ++ .ref b :: st) (hcat : (st.map fun v => v.category).sum ≤ 8) (hroom : n1 + mc ≤ rm.cells ∧ n2 + ms ≤ rm.slots) (kk : ∀ (u : S), post u → jx k G A nL (n1 + mc) (n2 + ms) (ws2 u) (pc + 3) lv st) : jx k G A nL n1 n2 ws pc lv st0 := by
  obtain ⟨p, l0, e, R, s, m, args, below, meth, c, Q⟩ := k
  obtain ⟨hx, hb, hml, hown, hts, hK, hA, hev, rfl, rfl⟩ := hk
  intro H locs ls hP hD hS hl
  have hPc := hP.sub isC (jx_fm hC)
  have hDc := hD.sub isC hnC hC
  have hFc := va_free hD hS hA isC hC
  have hevc : jev G (va_A w0 H.size) s H := (hev.kept (fun a h1 h2 => hS.2.1 a h1 h2)).narrow hFc
  subst hst
  refine va_callv (va_runV (C := C) (b := b) (As := As) (rest := st) ⟨hx, hb, hml, hown, hts⟩ (hM H.size) (cwV _ hts hg hw hrc hrs hdn hR) ⟨fun a U g mk q => by obtain ⟨q0, q1, qP, qK, qD, qE⟩ := q; exact ⟨q0, q1, qP, va_K.moved (u := U) (U := U.calling g mk a) (Vm.Alike.refl U.vm) qK, qD, jev.same (u := U) (U := U.calling g mk a) rfl qE⟩, va_recv hK hPc hci hrv, fun U hU hW => ⟨rfl, by rw [hU], by rw [hU]; exact hPc, va_K.moved hW.alike hK, hDc.weaken (fun _ _ _ _ => trivial), by rw [hU]; exact hevc.warm hW⟩⟩ rfl rfl hl.1 rfl (lv_room hcat) hd hroom) hS (fun q _ h => hFc q h) hFc (fun u t H1 locs1 ht hvm hp hB hz1 hk1 hS1 => ?_)
  obtain ⟨hP1, hK1, hD1⟩ := hB
  rw [ht] at hP1
  obtain ⟨hP2, hD2⟩ := va_join hP hD isC isR hC hR0 hnR hdis hk1 hFc hP1 hD1
  exact kk u hp H1 locs1 ls (hP2.sub isB (jx_fm (hB0 u))) (hD2.sub isB hnB (hB0 u)) hS1 hl
theorem jx_callVNi (hk : jok k cc nL Ts own G A l rm) {post : Int32 → S → Prop} (hM : jmi l y wy rmy G (.ref b :: As) w0 w1 post mc ms) {C : String} {T0 : u_T} {N0 ci : Nat} {fs : List Value} (q0 : Nat) (hrv : w0[q0]? = some (job b ci fs)) (hci : vwCl[ci]? = some (C, T0, N0)) {host : String} (hg : GoodIn Ts wy) (hdn : y.cls ≠ "java/lang/invoke/MethodHandle" ∧ y.cls ≠ "java/lang/invoke/VarHandle" ∧ (parseMethodDescriptor y.desc).map (fun d => d.parameters.length) = some As.length) (hlk : Cond.methodLinkNest own ix y host ∈ jnest) (hini : Cond.initialized y.cls ∈ Ts) (hinst : Cond.instanceMethod y ∈ Ts) (hsel : Cond.selects C y y ∈ Ts) (hw : wy = Cond.code y bytes maxL ret :: wy0) (hrc : rmy.cells = mc) (hrs : rmy.slots = ms) (hR : rmy.frames + 1 ≤ rm.frames ∧ 8 + (maxL + 11) + rmy.locals ≤ rm.locals) (isC isR isB : List Nat) (hC : isC.map (fun i => ws[i]?) = w0.map some) (hR0 : isR.map (fun i => ws[i]?) = wr.map some) (hnC : va_nd isC = true) (hnR : va_nd isR = true) (hdis : ∀ i ∈ isR, i ∉ isC) (hnB : va_nd isB = true) (hB0 : ∀ u, isB.map (fun i => (wr ++ w1 u)[i]?) = (ws2 u).map some) (hd : decode cc pc = .ok (.invokevirtual ix, 3)) (hst : st0 = As.reverse ++ .ref b :: st) (hcat : (st.map fun v => v.category).sum ≤ 8) (hroom : n1 + mc ≤ rm.cells ∧ n2 + ms ≤ rm.slots) (kk : ∀ (r : Int32) (u : S), post r u → jx k G A nL (n1 + mc) (n2 + ms) (ws2 u) (pc + 3) lv (.int r :: st)) : jx k G A nL n1 n2 ws pc lv st0 := by
  obtain ⟨p, l0, e, R, s, m, args, below, meth, c, Q⟩ := k
  obtain ⟨hx, hb, hml, hown, hts, hK, hA, hev, rfl, rfl⟩ := hk
  intro H locs ls hP hD hS hl
  have hPc := hP.sub isC (jx_fm hC)
  have hDc := hD.sub isC hnC hC
  have hFc := va_free hD hS hA isC hC
  have hevc : jev G (va_A w0 H.size) s H := (hev.kept (fun a h1 h2 => hS.2.1 a h1 h2)).narrow hFc
  subst hst
  refine va_calli (va_runVN (C := C) (b := b) (As := As) (rest := st) ⟨hx, hb, hml, hown, hts⟩ (hM H.size) ⟨va_cnB _ hts hg hw hrc hrs (hev.1 _ hlk) (hts _ hini) hdn hR, hts _ hinst, hts _ hsel⟩ ⟨fun a U g mk q => by obtain ⟨q0, q1, qP, qK, qD, qE⟩ := q; exact ⟨q0, q1, qP, va_K.moved (u := U) (U := U.calling g mk a) (Vm.Alike.refl U.vm) qK, qD, jev.same (u := U) (U := U.calling g mk a) rfl qE⟩, va_recv hK hPc hci hrv, fun U hU hW => ⟨rfl, by rw [hU], by rw [hU]; exact hPc, va_K.moved hW.alike hK, hDc.weaken (fun _ _ _ _ => trivial), by rw [hU]; exact hevc.warm hW⟩⟩ rfl rfl hl.1 rfl (lv_room hcat) hd hroom) hS (fun q _ h => hFc q h) hFc (fun r u t H1 locs1 ht hvm hp hB hz1 hk1 hS1 => ?_)
  obtain ⟨hP1, hK1, hD1⟩ := hB
  rw [ht] at hP1
  obtain ⟨hP2, hD2⟩ := va_join hP hD isC isR hC hR0 hnR hdis hk1 hFc hP1 hD1
  exact kk r u hp H1 locs1 ls (hP2.sub isB (jx_fm (hB0 u))) (hD2.sub isB hnB (hB0 u)) hS1 hl
theorem jx_callVNl (hk : jok k cc nL Ts own G A l rm) {post : Int64 → S → Prop} (hM : jml l y wy rmy G (.ref b :: As) w0 w1 post mc ms) {C : String} {T0 : u_T} {N0 ci : Nat} {fs : List Value} (q0 : Nat) (hrv : w0[q0]? = some (job b ci fs)) (hci : vwCl[ci]? = some (C, T0, N0)) {host : String} (hg : GoodIn Ts wy) (hdn : y.cls ≠ "java/lang/invoke/MethodHandle" ∧ y.cls ≠ "java/lang/invoke/VarHandle" ∧ (parseMethodDescriptor y.desc).map (fun d => d.parameters.length) = some As.length) (hlk : Cond.methodLinkNest own ix y host ∈ jnest) (hini : Cond.initialized y.cls ∈ Ts) (hinst : Cond.instanceMethod y ∈ Ts) (hsel : Cond.selects C y y ∈ Ts) (hw : wy = Cond.code y bytes maxL ret :: wy0) (hrc : rmy.cells = mc) (hrs : rmy.slots = ms) (hR : rmy.frames + 1 ≤ rm.frames ∧ 8 + (maxL + 11) + rmy.locals ≤ rm.locals) (isC isR isB : List Nat) (hC : isC.map (fun i => ws[i]?) = w0.map some) (hR0 : isR.map (fun i => ws[i]?) = wr.map some) (hnC : va_nd isC = true) (hnR : va_nd isR = true) (hdis : ∀ i ∈ isR, i ∉ isC) (hnB : va_nd isB = true) (hB0 : ∀ u, isB.map (fun i => (wr ++ w1 u)[i]?) = (ws2 u).map some) (hd : decode cc pc = .ok (.invokevirtual ix, 3)) (hst : st0 = As.reverse ++ .ref b :: st) (hcat : (st.map fun v => v.category).sum ≤ 8) (hroom : n1 + mc ≤ rm.cells ∧ n2 + ms ≤ rm.slots) (kk : ∀ (r : Int64) (u : S), post r u → jx k G A nL (n1 + mc) (n2 + ms) (ws2 u) (pc + 3) lv (.long r :: st)) : jx k G A nL n1 n2 ws pc lv st0 := by
  obtain ⟨p, l0, e, R, s, m, args, below, meth, c, Q⟩ := k
  obtain ⟨hx, hb, hml, hown, hts, hK, hA, hev, rfl, rfl⟩ := hk
  intro H locs ls hP hD hS hl
  have hPc := hP.sub isC (jx_fm hC)
  have hDc := hD.sub isC hnC hC
  have hFc := va_free hD hS hA isC hC
  have hevc : jev G (va_A w0 H.size) s H := (hev.kept (fun a h1 h2 => hS.2.1 a h1 h2)).narrow hFc
  subst hst
  refine va_calll (va_runVN (C := C) (b := b) (As := As) (rest := st) ⟨hx, hb, hml, hown, hts⟩ (hM H.size) ⟨va_cnB _ hts hg hw hrc hrs (hev.1 _ hlk) (hts _ hini) hdn hR, hts _ hinst, hts _ hsel⟩ ⟨fun a U g mk q => by obtain ⟨q0, q1, qP, qK, qD, qE⟩ := q; exact ⟨q0, q1, qP, va_K.moved (u := U) (U := U.calling g mk a) (Vm.Alike.refl U.vm) qK, qD, jev.same (u := U) (U := U.calling g mk a) rfl qE⟩, va_recv hK hPc hci hrv, fun U hU hW => ⟨rfl, by rw [hU], by rw [hU]; exact hPc, va_K.moved hW.alike hK, hDc.weaken (fun _ _ _ _ => trivial), by rw [hU]; exact hevc.warm hW⟩⟩ rfl rfl hl.1 rfl (lv_room hcat) hd hroom) hS (fun q _ h => hFc q h) hFc (fun r u t H1 locs1 ht hvm hp hB hz1 hk1 hS1 => ?_)
  obtain ⟨hP1, hK1, hD1⟩ := hB
  rw [ht] at hP1
  obtain ⟨hP2, hD2⟩ := va_join hP hD isC isR hC hR0 hnR hdis hk1 hFc hP1 hD1
  exact kk r u hp H1 locs1 ls (hP2.sub isB (jx_fm (hB0 u))) (hD2.sub isB hnB (hB0 u)) hS1 hl
theorem jx_callVNv (hk : jok k cc nL Ts own G A l rm) {post : S → Prop} (hM : jmv l y wy rmy G (.ref b :: As) w0 w1 post mc ms) {C : String} {T0 : u_T} {N0 ci : Nat} {fs : List Value} (q0 : Nat) (hrv : w0[q0]? = some (job b ci fs)) (hci : vwCl[ci]? = some (C, T0, N0)) {host : String} (hg : GoodIn Ts wy) (hdn : y.cls ≠ "java/lang/invoke/MethodHandle" ∧ y.cls ≠ "java/lang/invoke/VarHandle" ∧ (parseMethodDescriptor y.desc).map (fun d => d.parameters.length) = some As.length) (hlk : Cond.methodLinkNest own ix y host ∈ jnest) (hini : Cond.initialized y.cls ∈ Ts) (hinst : Cond.instanceMethod y ∈ Ts) (hsel : Cond.selects C y y ∈ Ts) (hw : wy = Cond.code y bytes maxL ret :: wy0) (hrc : rmy.cells = mc) (hrs : rmy.slots = ms) (hR : rmy.frames + 1 ≤ rm.frames ∧ 8 + (maxL + 11) + rmy.locals ≤ rm.locals) (isC isR isB : List Nat) (hC : isC.map (fun i => ws[i]?) = w0.map some) (hR0 : isR.map (fun i => ws[i]?) = wr.map some) (hnC : va_nd isC = true) (hnR : va_nd isR = true) (hdis : ∀ i ∈ isR, i ∉ isC) (hnB : va_nd isB = true) (hB0 : ∀ u, isB.map (fun i => (wr ++ w1 u)[i]?) = (ws2 u).map some) (hd : decode cc pc = .ok (.invokevirtual ix, 3)) (hst : st0 = As.reverse ++ .ref b :: st) (hcat : (st.map fun v => v.category).sum ≤ 8) (hroom : n1 + mc ≤ rm.cells ∧ n2 + ms ≤ rm.slots) (kk : ∀ (u : S), post u → jx k G A nL (n1 + mc) (n2 + ms) (ws2 u) (pc + 3) lv st) : jx k G A nL n1 n2 ws pc lv st0 := by
  obtain ⟨p, l0, e, R, s, m, args, below, meth, c, Q⟩ := k
  obtain ⟨hx, hb, hml, hown, hts, hK, hA, hev, rfl, rfl⟩ := hk
  intro H locs ls hP hD hS hl
  have hPc := hP.sub isC (jx_fm hC)
  have hDc := hD.sub isC hnC hC
  have hFc := va_free hD hS hA isC hC
  have hevc : jev G (va_A w0 H.size) s H := (hev.kept (fun a h1 h2 => hS.2.1 a h1 h2)).narrow hFc
  subst hst
  refine va_callv (va_runVN (C := C) (b := b) (As := As) (rest := st) ⟨hx, hb, hml, hown, hts⟩ (hM H.size) ⟨va_cnB _ hts hg hw hrc hrs (hev.1 _ hlk) (hts _ hini) hdn hR, hts _ hinst, hts _ hsel⟩ ⟨fun a U g mk q => by obtain ⟨q0, q1, qP, qK, qD, qE⟩ := q; exact ⟨q0, q1, qP, va_K.moved (u := U) (U := U.calling g mk a) (Vm.Alike.refl U.vm) qK, qD, jev.same (u := U) (U := U.calling g mk a) rfl qE⟩, va_recv hK hPc hci hrv, fun U hU hW => ⟨rfl, by rw [hU], by rw [hU]; exact hPc, va_K.moved hW.alike hK, hDc.weaken (fun _ _ _ _ => trivial), by rw [hU]; exact hevc.warm hW⟩⟩ rfl rfl hl.1 rfl (lv_room hcat) hd hroom) hS (fun q _ h => hFc q h) hFc (fun u t H1 locs1 ht hvm hp hB hz1 hk1 hS1 => ?_)
  obtain ⟨hP1, hK1, hD1⟩ := hB
  rw [ht] at hP1
  obtain ⟨hP2, hD2⟩ := va_join hP hD isC isR hC hR0 hnR hdis hk1 hFc hP1 hD1
  exact kk u hp H1 locs1 ls (hP2.sub isB (jx_fm (hB0 u))) (hD2.sub isB hnB (hB0 u)) hS1 hl
theorem jx_callSi (hk : jok k cc nL Ts own G A l rm) {post : Int32 → S → Prop} (hM : jmi l y wy rmy G As w0 w1 post mc ms)  (hg : GoodIn Ts (va_wsS own ix y wy)) (hdn : y.cls ≠ "java/lang/invoke/MethodHandle" ∧ y.cls ≠ "java/lang/invoke/VarHandle" ∧ (parseMethodDescriptor y.desc).map (fun d => d.parameters.length) = some As.length) (hw : wy = Cond.code y bytes maxL ret :: wy0) (hrc : rmy.cells = mc) (hrs : rmy.slots = ms) (hR : rmy.frames + 1 ≤ rm.frames ∧ 8 + (maxL + 11) + rmy.locals ≤ rm.locals) (isC isR isB : List Nat) (hC : isC.map (fun i => ws[i]?) = w0.map some) (hR0 : isR.map (fun i => ws[i]?) = wr.map some) (hnC : va_nd isC = true) (hnR : va_nd isR = true) (hdis : ∀ i ∈ isR, i ∉ isC) (hnB : va_nd isB = true) (hB0 : ∀ u, isB.map (fun i => (wr ++ w1 u)[i]?) = (ws2 u).map some) (hd : decode cc pc = .ok (.invokestatic ix, 3)) (hst : st0 = As.reverse ++ st) (hcat : (st.map fun v => v.category).sum ≤ 8) (hroom : n1 + mc ≤ rm.cells ∧ n2 + ms ≤ rm.slots) (kk : ∀ (r : Int32) (u : S), post r u → jx k G A nL (n1 + mc) (n2 + ms) (ws2 u) (pc + 3) lv (.int r :: st)) : jx k G A nL n1 n2 ws pc lv st0 := by
  obtain ⟨p, l0, e, R, s, m, args, below, meth, c, Q⟩ := k
  obtain ⟨hx, hb, hml, hown, hts, hK, hA, hev, rfl, rfl⟩ := hk
  intro H locs ls hP hD hS hl
  have hPc := hP.sub isC (jx_fm hC)
  have hDc := hD.sub isC hnC hC
  have hFc := va_free hD hS hA isC hC
  have hevc : jev G (va_A w0 H.size) s H := (hev.kept (fun a h1 h2 => hS.2.1 a h1 h2)).narrow hFc
  subst hst
  refine va_calli (va_runS (As := As) (rest := st) ⟨hx, hb, hml, hown, hts⟩ (hM H.size) (va_cwS _ hts hg hw hrc hrs hdn hR) ⟨fun a U g mk q => by obtain ⟨q0, q1, qP, qK, qD, qE⟩ := q; exact ⟨q0, q1, qP, va_K.moved (u := U) (U := U.calling g mk a) (Vm.Alike.refl U.vm) qK, qD, jev.same (u := U) (U := U.calling g mk a) rfl qE⟩, fun U hU hW => ⟨rfl, by rw [hU], by rw [hU]; exact hPc, va_K.moved hW.alike hK, hDc.weaken (fun _ _ _ _ => trivial), by rw [hU]; exact hevc.warm hW⟩⟩ rfl rfl hl.1 rfl (lv_room hcat) hd hroom) hS (fun q _ h => hFc q h) hFc (fun r u t H1 locs1 ht hvm hp hB hz1 hk1 hS1 => ?_)
  obtain ⟨hP1, hK1, hD1⟩ := hB
  rw [ht] at hP1
  obtain ⟨hP2, hD2⟩ := va_join hP hD isC isR hC hR0 hnR hdis hk1 hFc hP1 hD1
  exact kk r u hp H1 locs1 ls (hP2.sub isB (jx_fm (hB0 u))) (hD2.sub isB hnB (hB0 u)) hS1 hl
theorem jx_callSl (hk : jok k cc nL Ts own G A l rm) {post : Int64 → S → Prop} (hM : jml l y wy rmy G As w0 w1 post mc ms)  (hg : GoodIn Ts (va_wsS own ix y wy)) (hdn : y.cls ≠ "java/lang/invoke/MethodHandle" ∧ y.cls ≠ "java/lang/invoke/VarHandle" ∧ (parseMethodDescriptor y.desc).map (fun d => d.parameters.length) = some As.length) (hw : wy = Cond.code y bytes maxL ret :: wy0) (hrc : rmy.cells = mc) (hrs : rmy.slots = ms) (hR : rmy.frames + 1 ≤ rm.frames ∧ 8 + (maxL + 11) + rmy.locals ≤ rm.locals) (isC isR isB : List Nat) (hC : isC.map (fun i => ws[i]?) = w0.map some) (hR0 : isR.map (fun i => ws[i]?) = wr.map some) (hnC : va_nd isC = true) (hnR : va_nd isR = true) (hdis : ∀ i ∈ isR, i ∉ isC) (hnB : va_nd isB = true) (hB0 : ∀ u, isB.map (fun i => (wr ++ w1 u)[i]?) = (ws2 u).map some) (hd : decode cc pc = .ok (.invokestatic ix, 3)) (hst : st0 = As.reverse ++ st) (hcat : (st.map fun v => v.category).sum ≤ 8) (hroom : n1 + mc ≤ rm.cells ∧ n2 + ms ≤ rm.slots) (kk : ∀ (r : Int64) (u : S), post r u → jx k G A nL (n1 + mc) (n2 + ms) (ws2 u) (pc + 3) lv (.long r :: st)) : jx k G A nL n1 n2 ws pc lv st0 := by
  obtain ⟨p, l0, e, R, s, m, args, below, meth, c, Q⟩ := k
  obtain ⟨hx, hb, hml, hown, hts, hK, hA, hev, rfl, rfl⟩ := hk
  intro H locs ls hP hD hS hl
  have hPc := hP.sub isC (jx_fm hC)
  have hDc := hD.sub isC hnC hC
  have hFc := va_free hD hS hA isC hC
  have hevc : jev G (va_A w0 H.size) s H := (hev.kept (fun a h1 h2 => hS.2.1 a h1 h2)).narrow hFc
  subst hst
  refine va_calll (va_runS (As := As) (rest := st) ⟨hx, hb, hml, hown, hts⟩ (hM H.size) (va_cwS _ hts hg hw hrc hrs hdn hR) ⟨fun a U g mk q => by obtain ⟨q0, q1, qP, qK, qD, qE⟩ := q; exact ⟨q0, q1, qP, va_K.moved (u := U) (U := U.calling g mk a) (Vm.Alike.refl U.vm) qK, qD, jev.same (u := U) (U := U.calling g mk a) rfl qE⟩, fun U hU hW => ⟨rfl, by rw [hU], by rw [hU]; exact hPc, va_K.moved hW.alike hK, hDc.weaken (fun _ _ _ _ => trivial), by rw [hU]; exact hevc.warm hW⟩⟩ rfl rfl hl.1 rfl (lv_room hcat) hd hroom) hS (fun q _ h => hFc q h) hFc (fun r u t H1 locs1 ht hvm hp hB hz1 hk1 hS1 => ?_)
  obtain ⟨hP1, hK1, hD1⟩ := hB
  rw [ht] at hP1
  obtain ⟨hP2, hD2⟩ := va_join hP hD isC isR hC hR0 hnR hdis hk1 hFc hP1 hD1
  exact kk r u hp H1 locs1 ls (hP2.sub isB (jx_fm (hB0 u))) (hD2.sub isB hnB (hB0 u)) hS1 hl
theorem jx_callSv (hk : jok k cc nL Ts own G A l rm) {post : S → Prop} (hM : jmv l y wy rmy G As w0 w1 post mc ms)  (hg : GoodIn Ts (va_wsS own ix y wy)) (hdn : y.cls ≠ "java/lang/invoke/MethodHandle" ∧ y.cls ≠ "java/lang/invoke/VarHandle" ∧ (parseMethodDescriptor y.desc).map (fun d => d.parameters.length) = some As.length) (hw : wy = Cond.code y bytes maxL ret :: wy0) (hrc : rmy.cells = mc) (hrs : rmy.slots = ms) (hR : rmy.frames + 1 ≤ rm.frames ∧ 8 + (maxL + 11) + rmy.locals ≤ rm.locals) (isC isR isB : List Nat) (hC : isC.map (fun i => ws[i]?) = w0.map some) (hR0 : isR.map (fun i => ws[i]?) = wr.map some) (hnC : va_nd isC = true) (hnR : va_nd isR = true) (hdis : ∀ i ∈ isR, i ∉ isC) (hnB : va_nd isB = true) (hB0 : ∀ u, isB.map (fun i => (wr ++ w1 u)[i]?) = (ws2 u).map some) (hd : decode cc pc = .ok (.invokestatic ix, 3)) (hst : st0 = As.reverse ++ st) (hcat : (st.map fun v => v.category).sum ≤ 8) (hroom : n1 + mc ≤ rm.cells ∧ n2 + ms ≤ rm.slots) (kk : ∀ (u : S), post u → jx k G A nL (n1 + mc) (n2 + ms) (ws2 u) (pc + 3) lv st) : jx k G A nL n1 n2 ws pc lv st0 := by
  obtain ⟨p, l0, e, R, s, m, args, below, meth, c, Q⟩ := k
  obtain ⟨hx, hb, hml, hown, hts, hK, hA, hev, rfl, rfl⟩ := hk
  intro H locs ls hP hD hS hl
  have hPc := hP.sub isC (jx_fm hC)
  have hDc := hD.sub isC hnC hC
  have hFc := va_free hD hS hA isC hC
  have hevc : jev G (va_A w0 H.size) s H := (hev.kept (fun a h1 h2 => hS.2.1 a h1 h2)).narrow hFc
  subst hst
  refine va_callv (va_runS (As := As) (rest := st) ⟨hx, hb, hml, hown, hts⟩ (hM H.size) (va_cwS _ hts hg hw hrc hrs hdn hR) ⟨fun a U g mk q => by obtain ⟨q0, q1, qP, qK, qD, qE⟩ := q; exact ⟨q0, q1, qP, va_K.moved (u := U) (U := U.calling g mk a) (Vm.Alike.refl U.vm) qK, qD, jev.same (u := U) (U := U.calling g mk a) rfl qE⟩, fun U hU hW => ⟨rfl, by rw [hU], by rw [hU]; exact hPc, va_K.moved hW.alike hK, hDc.weaken (fun _ _ _ _ => trivial), by rw [hU]; exact hevc.warm hW⟩⟩ rfl rfl hl.1 rfl (lv_room hcat) hd hroom) hS (fun q _ h => hFc q h) hFc (fun u t H1 locs1 ht hvm hp hB hz1 hk1 hS1 => ?_)
  obtain ⟨hP1, hK1, hD1⟩ := hB
  rw [ht] at hP1
  obtain ⟨hP2, hD2⟩ := va_join hP hD isC isR hC hR0 hnR hdis hk1 hFc hP1 hD1
  exact kk u hp H1 locs1 ls (hP2.sub isB (jx_fm (hB0 u))) (hD2.sub isB hnB (hB0 u)) hS1 hl
theorem jx_callSNi (hk : jok k cc nL Ts own G A l rm) {post : Int32 → S → Prop} (hM : jmi l y wy rmy G As w0 w1 post mc ms)  {host : String} (hg : GoodIn Ts wy) (hdn : y.cls ≠ "java/lang/invoke/MethodHandle" ∧ y.cls ≠ "java/lang/invoke/VarHandle" ∧ (parseMethodDescriptor y.desc).map (fun d => d.parameters.length) = some As.length) (hlk : Cond.methodLinkNest own ix y host ∈ jnest) (hini : Cond.initialized y.cls ∈ Ts) (hstt : Cond.static y ∈ Ts) (hw : wy = Cond.code y bytes maxL ret :: wy0) (hrc : rmy.cells = mc) (hrs : rmy.slots = ms) (hR : rmy.frames + 1 ≤ rm.frames ∧ 8 + (maxL + 11) + rmy.locals ≤ rm.locals) (isC isR isB : List Nat) (hC : isC.map (fun i => ws[i]?) = w0.map some) (hR0 : isR.map (fun i => ws[i]?) = wr.map some) (hnC : va_nd isC = true) (hnR : va_nd isR = true) (hdis : ∀ i ∈ isR, i ∉ isC) (hnB : va_nd isB = true) (hB0 : ∀ u, isB.map (fun i => (wr ++ w1 u)[i]?) = (ws2 u).map some) (hd : decode cc pc = .ok (.invokestatic ix, 3)) (hst : st0 = As.reverse ++ st) (hcat : (st.map fun v => v.category).sum ≤ 8) (hroom : n1 + mc ≤ rm.cells ∧ n2 + ms ≤ rm.slots) (kk : ∀ (r : Int32) (u : S), post r u → jx k G A nL (n1 + mc) (n2 + ms) (ws2 u) (pc + 3) lv (.int r :: st)) : jx k G A nL n1 n2 ws pc lv st0 := by
  obtain ⟨p, l0, e, R, s, m, args, below, meth, c, Q⟩ := k
  obtain ⟨hx, hb, hml, hown, hts, hK, hA, hev, rfl, rfl⟩ := hk
  intro H locs ls hP hD hS hl
  have hPc := hP.sub isC (jx_fm hC)
  have hDc := hD.sub isC hnC hC
  have hFc := va_free hD hS hA isC hC
  have hevc : jev G (va_A w0 H.size) s H := (hev.kept (fun a h1 h2 => hS.2.1 a h1 h2)).narrow hFc
  subst hst
  refine va_calli (va_runSN (As := As) (rest := st) ⟨hx, hb, hml, hown, hts⟩ (hM H.size) ⟨va_cnB _ hts hg hw hrc hrs (hev.1 _ hlk) (hts _ hini) hdn hR, hts _ hstt, trivial⟩ ⟨fun a U g mk q => by obtain ⟨q0, q1, qP, qK, qD, qE⟩ := q; exact ⟨q0, q1, qP, va_K.moved (u := U) (U := U.calling g mk a) (Vm.Alike.refl U.vm) qK, qD, jev.same (u := U) (U := U.calling g mk a) rfl qE⟩, fun U hU hW => ⟨rfl, by rw [hU], by rw [hU]; exact hPc, va_K.moved hW.alike hK, hDc.weaken (fun _ _ _ _ => trivial), by rw [hU]; exact hevc.warm hW⟩⟩ rfl rfl hl.1 rfl (lv_room hcat) hd hroom) hS (fun q _ h => hFc q h) hFc (fun r u t H1 locs1 ht hvm hp hB hz1 hk1 hS1 => ?_)
  obtain ⟨hP1, hK1, hD1⟩ := hB
  rw [ht] at hP1
  obtain ⟨hP2, hD2⟩ := va_join hP hD isC isR hC hR0 hnR hdis hk1 hFc hP1 hD1
  exact kk r u hp H1 locs1 ls (hP2.sub isB (jx_fm (hB0 u))) (hD2.sub isB hnB (hB0 u)) hS1 hl
theorem jx_callSNl (hk : jok k cc nL Ts own G A l rm) {post : Int64 → S → Prop} (hM : jml l y wy rmy G As w0 w1 post mc ms)  {host : String} (hg : GoodIn Ts wy) (hdn : y.cls ≠ "java/lang/invoke/MethodHandle" ∧ y.cls ≠ "java/lang/invoke/VarHandle" ∧ (parseMethodDescriptor y.desc).map (fun d => d.parameters.length) = some As.length) (hlk : Cond.methodLinkNest own ix y host ∈ jnest) (hini : Cond.initialized y.cls ∈ Ts) (hstt : Cond.static y ∈ Ts) (hw : wy = Cond.code y bytes maxL ret :: wy0) (hrc : rmy.cells = mc) (hrs : rmy.slots = ms) (hR : rmy.frames + 1 ≤ rm.frames ∧ 8 + (maxL + 11) + rmy.locals ≤ rm.locals) (isC isR isB : List Nat) (hC : isC.map (fun i => ws[i]?) = w0.map some) (hR0 : isR.map (fun i => ws[i]?) = wr.map some) (hnC : va_nd isC = true) (hnR : va_nd isR = true) (hdis : ∀ i ∈ isR, i ∉ isC) (hnB : va_nd isB = true) (hB0 : ∀ u, isB.map (fun i => (wr ++ w1 u)[i]?) = (ws2 u).map some) (hd : decode cc pc = .ok (.invokestatic ix, 3)) (hst : st0 = As.reverse ++ st) (hcat : (st.map fun v => v.category).sum ≤ 8) (hroom : n1 + mc ≤ rm.cells ∧ n2 + ms ≤ rm.slots) (kk : ∀ (r : Int64) (u : S), post r u → jx k G A nL (n1 + mc) (n2 + ms) (ws2 u) (pc + 3) lv (.long r :: st)) : jx k G A nL n1 n2 ws pc lv st0 := by
  obtain ⟨p, l0, e, R, s, m, args, below, meth, c, Q⟩ := k
  obtain ⟨hx, hb, hml, hown, hts, hK, hA, hev, rfl, rfl⟩ := hk
  intro H locs ls hP hD hS hl
  have hPc := hP.sub isC (jx_fm hC)
  have hDc := hD.sub isC hnC hC
  have hFc := va_free hD hS hA isC hC
  have hevc : jev G (va_A w0 H.size) s H := (hev.kept (fun a h1 h2 => hS.2.1 a h1 h2)).narrow hFc
  subst hst
  refine va_calll (va_runSN (As := As) (rest := st) ⟨hx, hb, hml, hown, hts⟩ (hM H.size) ⟨va_cnB _ hts hg hw hrc hrs (hev.1 _ hlk) (hts _ hini) hdn hR, hts _ hstt, trivial⟩ ⟨fun a U g mk q => by obtain ⟨q0, q1, qP, qK, qD, qE⟩ := q; exact ⟨q0, q1, qP, va_K.moved (u := U) (U := U.calling g mk a) (Vm.Alike.refl U.vm) qK, qD, jev.same (u := U) (U := U.calling g mk a) rfl qE⟩, fun U hU hW => ⟨rfl, by rw [hU], by rw [hU]; exact hPc, va_K.moved hW.alike hK, hDc.weaken (fun _ _ _ _ => trivial), by rw [hU]; exact hevc.warm hW⟩⟩ rfl rfl hl.1 rfl (lv_room hcat) hd hroom) hS (fun q _ h => hFc q h) hFc (fun r u t H1 locs1 ht hvm hp hB hz1 hk1 hS1 => ?_)
  obtain ⟨hP1, hK1, hD1⟩ := hB
  rw [ht] at hP1
  obtain ⟨hP2, hD2⟩ := va_join hP hD isC isR hC hR0 hnR hdis hk1 hFc hP1 hD1
  exact kk r u hp H1 locs1 ls (hP2.sub isB (jx_fm (hB0 u))) (hD2.sub isB hnB (hB0 u)) hS1 hl
theorem jx_callSNv (hk : jok k cc nL Ts own G A l rm) {post : S → Prop} (hM : jmv l y wy rmy G As w0 w1 post mc ms)  {host : String} (hg : GoodIn Ts wy) (hdn : y.cls ≠ "java/lang/invoke/MethodHandle" ∧ y.cls ≠ "java/lang/invoke/VarHandle" ∧ (parseMethodDescriptor y.desc).map (fun d => d.parameters.length) = some As.length) (hlk : Cond.methodLinkNest own ix y host ∈ jnest) (hini : Cond.initialized y.cls ∈ Ts) (hstt : Cond.static y ∈ Ts) (hw : wy = Cond.code y bytes maxL ret :: wy0) (hrc : rmy.cells = mc) (hrs : rmy.slots = ms) (hR : rmy.frames + 1 ≤ rm.frames ∧ 8 + (maxL + 11) + rmy.locals ≤ rm.locals) (isC isR isB : List Nat) (hC : isC.map (fun i => ws[i]?) = w0.map some) (hR0 : isR.map (fun i => ws[i]?) = wr.map some) (hnC : va_nd isC = true) (hnR : va_nd isR = true) (hdis : ∀ i ∈ isR, i ∉ isC) (hnB : va_nd isB = true) (hB0 : ∀ u, isB.map (fun i => (wr ++ w1 u)[i]?) = (ws2 u).map some) (hd : decode cc pc = .ok (.invokestatic ix, 3)) (hst : st0 = As.reverse ++ st) (hcat : (st.map fun v => v.category).sum ≤ 8) (hroom : n1 + mc ≤ rm.cells ∧ n2 + ms ≤ rm.slots) (kk : ∀ (u : S), post u → jx k G A nL (n1 + mc) (n2 + ms) (ws2 u) (pc + 3) lv st) : jx k G A nL n1 n2 ws pc lv st0 := by
  obtain ⟨p, l0, e, R, s, m, args, below, meth, c, Q⟩ := k
  obtain ⟨hx, hb, hml, hown, hts, hK, hA, hev, rfl, rfl⟩ := hk
  intro H locs ls hP hD hS hl
  have hPc := hP.sub isC (jx_fm hC)
  have hDc := hD.sub isC hnC hC
  have hFc := va_free hD hS hA isC hC
  have hevc : jev G (va_A w0 H.size) s H := (hev.kept (fun a h1 h2 => hS.2.1 a h1 h2)).narrow hFc
  subst hst
  refine va_callv (va_runSN (As := As) (rest := st) ⟨hx, hb, hml, hown, hts⟩ (hM H.size) ⟨va_cnB _ hts hg hw hrc hrs (hev.1 _ hlk) (hts _ hini) hdn hR, hts _ hstt, trivial⟩ ⟨fun a U g mk q => by obtain ⟨q0, q1, qP, qK, qD, qE⟩ := q; exact ⟨q0, q1, qP, va_K.moved (u := U) (U := U.calling g mk a) (Vm.Alike.refl U.vm) qK, qD, jev.same (u := U) (U := U.calling g mk a) rfl qE⟩, fun U hU hW => ⟨rfl, by rw [hU], by rw [hU]; exact hPc, va_K.moved hW.alike hK, hDc.weaken (fun _ _ _ _ => trivial), by rw [hU]; exact hevc.warm hW⟩⟩ rfl rfl hl.1 rfl (lv_room hcat) hd hroom) hS (fun q _ h => hFc q h) hFc (fun u t H1 locs1 ht hvm hp hB hz1 hk1 hS1 => ?_)
  obtain ⟨hP1, hK1, hD1⟩ := hB
  rw [ht] at hP1
  obtain ⟨hP2, hD2⟩ := va_join hP hD isC isR hC hR0 hnR hdis hk1 hFc hP1 hD1
  exact kk u hp H1 locs1 ls (hP2.sub isB (jx_fm (hB0 u))) (hD2.sub isB hnB (hB0 u)) hS1 hl
theorem jx_callIv (hk : jok k cc nL Ts own G A l rm) {post : S → Prop} (hM : jmv l y wy rmy G (.ref b :: As) w0 w1 post mc ms)  (hg : GoodIn Ts wy) (hdn : y.cls ≠ "java/lang/invoke/MethodHandle" ∧ y.cls ≠ "java/lang/invoke/VarHandle" ∧ (parseMethodDescriptor y.desc).map (fun d => d.parameters.length) = some As.length) (hlk : Cond.methodLink own ix y ∈ Ts) (hini : Cond.initialized y.cls ∈ Ts) (hinst : Cond.instanceMethod y ∈ Ts) (hy1 : y.name = "<init>") (hw : wy = Cond.code y bytes maxL none :: wy0) (hrc : rmy.cells = mc) (hrs : rmy.slots = ms) (hR : rmy.frames + 1 ≤ rm.frames ∧ 8 + (maxL + 11) + rmy.locals ≤ rm.locals) (isC isR isB : List Nat) (hC : isC.map (fun i => ws[i]?) = w0.map some) (hR0 : isR.map (fun i => ws[i]?) = wr.map some) (hnC : va_nd isC = true) (hnR : va_nd isR = true) (hdis : ∀ i ∈ isR, i ∉ isC) (hnB : va_nd isB = true) (hB0 : ∀ u, isB.map (fun i => (wr ++ w1 u)[i]?) = (ws2 u).map some) (hd : decode cc pc = .ok (.invokespecial ix, 3)) (hst : st0 = As.reverse ++ .ref b :: st) (hcat : (st.map fun v => v.category).sum ≤ 8) (hroom : n1 + mc ≤ rm.cells ∧ n2 + ms ≤ rm.slots) (kk : ∀ (u : S), post u → jx k G A nL (n1 + mc) (n2 + ms) (ws2 u) (pc + 3) lv st) : jx k G A nL n1 n2 ws pc lv st0 := by
  obtain ⟨p, l0, e, R, s, m, args, below, meth, c, Q⟩ := k
  obtain ⟨hx, hb, hml, hown, hts, hK, hA, hev, rfl, rfl⟩ := hk
  intro H locs ls hP hD hS hl
  have hPc := hP.sub isC (jx_fm hC)
  have hDc := hD.sub isC hnC hC
  have hFc := va_free hD hS hA isC hC
  have hevc : jev G (va_A w0 H.size) s H := (hev.kept (fun a h1 h2 => hS.2.1 a h1 h2)).narrow hFc
  subst hst
  refine va_callv (va_runI (b := b) (As := As) (rest := st) ⟨hx, hb, hml, hown, hts⟩ (hM H.size) (cwI _ hts hg hw hrc hrs (hts _ hini) (hts _ hlk) (hts _ hinst) hy1 hdn hR) ⟨fun a U g mk q => by obtain ⟨q0, q1, qP, qK, qD, qE⟩ := q; exact ⟨q0, q1, qP, va_K.moved (u := U) (U := U.calling g mk a) (Vm.Alike.refl U.vm) qK, qD, jev.same (u := U) (U := U.calling g mk a) rfl qE⟩, fun U hU hW => ⟨rfl, by rw [hU], by rw [hU]; exact hPc, va_K.moved hW.alike hK, hDc.weaken (fun _ _ _ _ => trivial), by rw [hU]; exact hevc.warm hW⟩⟩ rfl rfl hl.1 rfl (lv_room hcat) hd hroom) hS (fun q _ h => hFc q h) hFc (fun u t H1 locs1 ht hvm hp hB hz1 hk1 hS1 => ?_)
  obtain ⟨hP1, hK1, hD1⟩ := hB
  rw [ht] at hP1
  obtain ⟨hP2, hD2⟩ := va_join hP hD isC isR hC hR0 hnR hdis hk1 hFc hP1 hD1
  exact kk u hp H1 locs1 ls (hP2.sub isB (jx_fm (hB0 u))) (hD2.sub isB hnB (hB0 u)) hS1 hl
theorem jx_callINv (hk : jok k cc nL Ts own G A l rm) {post : S → Prop} (hM : jmv l y wy rmy G (.ref b :: As) w0 w1 post mc ms)  {host : String} (hg : GoodIn Ts wy) (hdn : y.cls ≠ "java/lang/invoke/MethodHandle" ∧ y.cls ≠ "java/lang/invoke/VarHandle" ∧ (parseMethodDescriptor y.desc).map (fun d => d.parameters.length) = some As.length) (hlk : Cond.methodLinkNest own ix y host ∈ jnest) (hini : Cond.initialized y.cls ∈ Ts) (hinst : Cond.instanceMethod y ∈ Ts) (hy1 : y.name = "<init>") (hw : wy = Cond.code y bytes maxL none :: wy0) (hrc : rmy.cells = mc) (hrs : rmy.slots = ms) (hR : rmy.frames + 1 ≤ rm.frames ∧ 8 + (maxL + 11) + rmy.locals ≤ rm.locals) (isC isR isB : List Nat) (hC : isC.map (fun i => ws[i]?) = w0.map some) (hR0 : isR.map (fun i => ws[i]?) = wr.map some) (hnC : va_nd isC = true) (hnR : va_nd isR = true) (hdis : ∀ i ∈ isR, i ∉ isC) (hnB : va_nd isB = true) (hB0 : ∀ u, isB.map (fun i => (wr ++ w1 u)[i]?) = (ws2 u).map some) (hd : decode cc pc = .ok (.invokespecial ix, 3)) (hst : st0 = As.reverse ++ .ref b :: st) (hcat : (st.map fun v => v.category).sum ≤ 8) (hroom : n1 + mc ≤ rm.cells ∧ n2 + ms ≤ rm.slots) (kk : ∀ (u : S), post u → jx k G A nL (n1 + mc) (n2 + ms) (ws2 u) (pc + 3) lv st) : jx k G A nL n1 n2 ws pc lv st0 := by
  obtain ⟨p, l0, e, R, s, m, args, below, meth, c, Q⟩ := k
  obtain ⟨hx, hb, hml, hown, hts, hK, hA, hev, rfl, rfl⟩ := hk
  intro H locs ls hP hD hS hl
  have hPc := hP.sub isC (jx_fm hC)
  have hDc := hD.sub isC hnC hC
  have hFc := va_free hD hS hA isC hC
  have hevc : jev G (va_A w0 H.size) s H := (hev.kept (fun a h1 h2 => hS.2.1 a h1 h2)).narrow hFc
  subst hst
  refine va_callv (va_runIN (b := b) (As := As) (rest := st) ⟨hx, hb, hml, hown, hts⟩ (hM H.size) ⟨va_cnB _ hts hg hw hrc hrs (hev.1 _ hlk) (hts _ hini) hdn hR, hy1, hts _ hinst⟩ ⟨fun a U g mk q => by obtain ⟨q0, q1, qP, qK, qD, qE⟩ := q; exact ⟨q0, q1, qP, va_K.moved (u := U) (U := U.calling g mk a) (Vm.Alike.refl U.vm) qK, qD, jev.same (u := U) (U := U.calling g mk a) rfl qE⟩, fun U hU hW => ⟨rfl, by rw [hU], by rw [hU]; exact hPc, va_K.moved hW.alike hK, hDc.weaken (fun _ _ _ _ => trivial), by rw [hU]; exact hevc.warm hW⟩⟩ rfl rfl hl.1 rfl (lv_room hcat) hd hroom) hS (fun q _ h => hFc q h) hFc (fun u t H1 locs1 ht hvm hp hB hz1 hk1 hS1 => ?_)
  obtain ⟨hP1, hK1, hD1⟩ := hB
  rw [ht] at hP1
  obtain ⟨hP2, hD2⟩ := va_join hP hD isC isR hC hR0 hnR hdis hk1 hFc hP1 hD1
  exact kk u hp H1 locs1 ls (hP2.sub isB (jx_fm (hB0 u))) (hD2.sub isB hnB (hB0 u)) hS1 hl
end JC
