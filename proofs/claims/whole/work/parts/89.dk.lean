/-! instructions out of bytes: a region of the law's code is looked at once -/
theorem by_get {l : List UInt8} {o : Nat} {n : Nat} {bs : List UInt8} (h : (l.drop o).take n = bs) (j : Nat) {b : UInt8} (hj : bs[j]? = some b) : l[o + j]? = some b := by
  rw [← h, List.getElem?_take] at hj
  split at hj
  · rw [List.getElem?_drop] at hj
    exact hj
  · cases hj
section DK
variable {cd : ByteArray} {pc : Nat}
theorem dk_u1 {b : UInt8} (h : cd.data.toList[pc]? = some b) : (Jvm.ClassFile.Reader.u1 : Jvm.ClassFile.Decoder Nat) cd pc = Except.ok (b.toNat, pc + 1) := by
  obtain ⟨h1, h2⟩ := List.getElem?_eq_some_iff.mp h
  have h3 : pc < cd.size := h1
  have h4 : cd[pc] = b := h2
  unfold Jvm.ClassFile.Reader.u1
  simp only [Bind.bind, ReaderT.bind, StateT.bind, Except.bind, MonadReader.read, readThe, MonadReaderOf.read, ReaderT.read, MonadState.get, getThe, MonadStateOf.get, StateT.get, liftM, monadLift, MonadLift.monadLift, Pure.pure, StateT.pure, ReaderT.pure, Except.pure, dif_pos h3, h4, MonadStateOf.set, StateT.set]
theorem dk_b {α β : Type} {r : Jvm.ClassFile.Decoder α} {K : α → Jvm.ClassFile.Decoder β} {p q : Nat} {v : α} (h : r cd p = Except.ok (v, q)) : (r >>= K) cd p = K v cd q := by
  simp only [Bind.bind, ReaderT.bind, StateT.bind, Except.bind, h]
theorem dk_u2 {a b : UInt8} (h : cd.data.toList[pc]? = some a) (g : cd.data.toList[pc + 1]? = some b) : (Jvm.ClassFile.Reader.u2 : Jvm.ClassFile.Decoder Nat) cd pc = Except.ok (a.toNat * 256 + b.toNat, pc + 1 + 1) := by
  unfold Jvm.ClassFile.Reader.u2
  rw [dk_b (dk_u1 h), dk_b (dk_u1 g)]
  rfl
theorem dk_m {α β : Type} {r : Jvm.ClassFile.Decoder α} {K : α → β} {p q : Nat} {v : α} (h : r cd p = Except.ok (v, q)) : (K <$> r : Jvm.ClassFile.Decoder β) cd p = Except.ok (K v, q) := by
  simp only [Functor.map, StateT.map, Bind.bind, Except.bind, Pure.pure, Except.pure, h]
theorem dk_s1 {a : UInt8} (h : cd.data.toList[pc]? = some a) : (Jvm.ClassFile.Reader.s1 : Jvm.ClassFile.Decoder Int) cd pc = Except.ok (Jvm.ClassFile.Reader.signed 8 a.toNat, pc + 1) := dk_m (dk_u1 h)
theorem dk_s2 {a b : UInt8} (h : cd.data.toList[pc]? = some a) (g : cd.data.toList[pc + 1]? = some b) : (Jvm.ClassFile.Reader.s2 : Jvm.ClassFile.Decoder Int) cd pc = Except.ok (Jvm.ClassFile.Reader.signed 16 (a.toNat * 256 + b.toNat), pc + 1 + 1) := dk_m (dk_u2 h g)
theorem dk_of {i : Jvm.ClassFile.Instr} {q k : Nat} (h : Jvm.ClassFile.Decoder.instr pc cd pc = Except.ok (i, q)) (hq : q = pc + k) : decode cd pc = Except.ok (i, k) := by
  subst hq
  have h : ((Jvm.ClassFile.Decoder.instr pc).run cd).run pc = Except.ok (i, pc + k) := h
  unfold Jvm.ClassFile.decode Jvm.ClassFile.Reader.runAt
  simp only [Bind.bind, Except.bind, Pure.pure, Except.pure, h, Nat.add_sub_cancel_left]
set_option maxRecDepth 100000 in
theorem dk_bb (h : cd.data.toList[pc]? = some 0xbb) {a b : UInt8} (g1 : cd.data.toList[pc + 1]? = some a) (g2 : cd.data.toList[pc + 2]? = some b) {n : Nat} (hn : a.toNat * 256 + b.toNat = n) : decode cd pc = Except.ok (.new n, 3) := by
  subst hn
  refine dk_of (q := pc + 1 + 1 + 1) ?_ rfl
  have h1 : (Jvm.ClassFile.Reader.u1 : Jvm.ClassFile.Decoder Nat) cd pc = Except.ok (187, pc + 1) := dk_u1 h
  unfold Jvm.ClassFile.Decoder.instr
  refine (dk_b h1).trans ?_
  exact (dk_b (dk_u2 g1 g2)).trans rfl
set_option maxRecDepth 100000 in
theorem dk_59 (h : cd.data.toList[pc]? = some 0x59) : decode cd pc = Except.ok (.dup, 1) := by
  refine dk_of (q := pc + 1) ?_ rfl
  have h1 : (Jvm.ClassFile.Reader.u1 : Jvm.ClassFile.Decoder Nat) cd pc = Except.ok (89, pc + 1) := dk_u1 h
  unfold Jvm.ClassFile.Decoder.instr
  refine (dk_b h1).trans ?_
  rfl
set_option maxRecDepth 100000 in
theorem dk_b7 (h : cd.data.toList[pc]? = some 0xb7) {a b : UInt8} (g1 : cd.data.toList[pc + 1]? = some a) (g2 : cd.data.toList[pc + 2]? = some b) {n : Nat} (hn : a.toNat * 256 + b.toNat = n) : decode cd pc = Except.ok (.invokespecial n, 3) := by
  subst hn
  refine dk_of (q := pc + 1 + 1 + 1) ?_ rfl
  have h1 : (Jvm.ClassFile.Reader.u1 : Jvm.ClassFile.Decoder Nat) cd pc = Except.ok (183, pc + 1) := dk_u1 h
  unfold Jvm.ClassFile.Decoder.instr
  refine (dk_b h1).trans ?_
  exact (dk_b (dk_u2 g1 g2)).trans rfl
set_option maxRecDepth 100000 in
theorem dk_4c (h : cd.data.toList[pc]? = some 0x4c) : decode cd pc = Except.ok (.astore_n 1, 1) := by
  refine dk_of (q := pc + 1) ?_ rfl
  have h1 : (Jvm.ClassFile.Reader.u1 : Jvm.ClassFile.Decoder Nat) cd pc = Except.ok (76, pc + 1) := dk_u1 h
  unfold Jvm.ClassFile.Decoder.instr
  refine (dk_b h1).trans ?_
  rfl
set_option maxRecDepth 100000 in
theorem dk_4d (h : cd.data.toList[pc]? = some 0x4d) : decode cd pc = Except.ok (.astore_n 2, 1) := by
  refine dk_of (q := pc + 1) ?_ rfl
  have h1 : (Jvm.ClassFile.Reader.u1 : Jvm.ClassFile.Decoder Nat) cd pc = Except.ok (77, pc + 1) := dk_u1 h
  unfold Jvm.ClassFile.Decoder.instr
  refine (dk_b h1).trans ?_
  rfl
set_option maxRecDepth 100000 in
theorem dk_03 (h : cd.data.toList[pc]? = some 0x03) : decode cd pc = Except.ok (.iconst 0, 1) := by
  refine dk_of (q := pc + 1) ?_ rfl
  have h1 : (Jvm.ClassFile.Reader.u1 : Jvm.ClassFile.Decoder Nat) cd pc = Except.ok (3, pc + 1) := dk_u1 h
  unfold Jvm.ClassFile.Decoder.instr
  refine (dk_b h1).trans ?_
  rfl
set_option maxRecDepth 100000 in
theorem dk_3e (h : cd.data.toList[pc]? = some 0x3e) : decode cd pc = Except.ok (.istore_n 3, 1) := by
  refine dk_of (q := pc + 1) ?_ rfl
  have h1 : (Jvm.ClassFile.Reader.u1 : Jvm.ClassFile.Decoder Nat) cd pc = Except.ok (62, pc + 1) := dk_u1 h
  unfold Jvm.ClassFile.Decoder.instr
  refine (dk_b h1).trans ?_
  rfl
set_option maxRecDepth 100000 in
theorem dk_1d (h : cd.data.toList[pc]? = some 0x1d) : decode cd pc = Except.ok (.iload_n 3, 1) := by
  refine dk_of (q := pc + 1) ?_ rfl
  have h1 : (Jvm.ClassFile.Reader.u1 : Jvm.ClassFile.Decoder Nat) cd pc = Except.ok (29, pc + 1) := dk_u1 h
  unfold Jvm.ClassFile.Decoder.instr
  refine (dk_b h1).trans ?_
  rfl
set_option maxRecDepth 100000 in
theorem dk_2a (h : cd.data.toList[pc]? = some 0x2a) : decode cd pc = Except.ok (.aload_n 0, 1) := by
  refine dk_of (q := pc + 1) ?_ rfl
  have h1 : (Jvm.ClassFile.Reader.u1 : Jvm.ClassFile.Decoder Nat) cd pc = Except.ok (42, pc + 1) := dk_u1 h
  unfold Jvm.ClassFile.Decoder.instr
  refine (dk_b h1).trans ?_
  rfl
set_option maxRecDepth 100000 in
theorem dk_be (h : cd.data.toList[pc]? = some 0xbe) : decode cd pc = Except.ok (.arraylength, 1) := by
  refine dk_of (q := pc + 1) ?_ rfl
  have h1 : (Jvm.ClassFile.Reader.u1 : Jvm.ClassFile.Decoder Nat) cd pc = Except.ok (190, pc + 1) := dk_u1 h
  unfold Jvm.ClassFile.Decoder.instr
  refine (dk_b h1).trans ?_
  rfl
set_option maxRecDepth 100000 in
theorem dk_07 (h : cd.data.toList[pc]? = some 0x07) : decode cd pc = Except.ok (.iconst 4, 1) := by
  refine dk_of (q := pc + 1) ?_ rfl
  have h1 : (Jvm.ClassFile.Reader.u1 : Jvm.ClassFile.Decoder Nat) cd pc = Except.ok (7, pc + 1) := dk_u1 h
  unfold Jvm.ClassFile.Decoder.instr
  refine (dk_b h1).trans ?_
  rfl
set_option maxRecDepth 100000 in
theorem dk_64 (h : cd.data.toList[pc]? = some 0x64) : decode cd pc = Except.ok (.isub, 1) := by
  refine dk_of (q := pc + 1) ?_ rfl
  have h1 : (Jvm.ClassFile.Reader.u1 : Jvm.ClassFile.Decoder Nat) cd pc = Except.ok (100, pc + 1) := dk_u1 h
  unfold Jvm.ClassFile.Decoder.instr
  refine (dk_b h1).trans ?_
  rfl
set_option maxRecDepth 100000 in
theorem dk_a3 (h : cd.data.toList[pc]? = some 0xa3) {a b : UInt8} (g1 : cd.data.toList[pc + 1]? = some a) (g2 : cd.data.toList[pc + 2]? = some b) {n : Int} (hn : Jvm.ClassFile.Reader.signed 16 (a.toNat * 256 + b.toNat) = n) : decode cd pc = Except.ok (.if_icmp .gt n, 3) := by
  subst hn
  refine dk_of (q := pc + 1 + 1 + 1) ?_ rfl
  have h1 : (Jvm.ClassFile.Reader.u1 : Jvm.ClassFile.Decoder Nat) cd pc = Except.ok (163, pc + 1) := dk_u1 h
  unfold Jvm.ClassFile.Decoder.instr
  refine (dk_b h1).trans ?_
  exact (dk_b (dk_s2 g1 g2)).trans rfl
set_option maxRecDepth 100000 in
theorem dk_2e (h : cd.data.toList[pc]? = some 0x2e) : decode cd pc = Except.ok (.iaload, 1) := by
  refine dk_of (q := pc + 1) ?_ rfl
  have h1 : (Jvm.ClassFile.Reader.u1 : Jvm.ClassFile.Decoder Nat) cd pc = Except.ok (46, pc + 1) := dk_u1 h
  unfold Jvm.ClassFile.Decoder.instr
  refine (dk_b h1).trans ?_
  rfl
set_option maxRecDepth 100000 in
theorem dk_10 (h : cd.data.toList[pc]? = some 0x10) {a : UInt8} (g1 : cd.data.toList[pc + 1]? = some a) {n : Int} (hn : Jvm.ClassFile.Reader.signed 8 a.toNat = n) : decode cd pc = Except.ok (.bipush n, 2) := by
  subst hn
  refine dk_of (q := pc + 1 + 1) ?_ rfl
  have h1 : (Jvm.ClassFile.Reader.u1 : Jvm.ClassFile.Decoder Nat) cd pc = Except.ok (16, pc + 1) := dk_u1 h
  unfold Jvm.ClassFile.Decoder.instr
  refine (dk_b h1).trans ?_
  exact (dk_b (dk_s1 g1)).trans rfl
set_option maxRecDepth 100000 in
theorem dk_7e (h : cd.data.toList[pc]? = some 0x7e) : decode cd pc = Except.ok (.iand, 1) := by
  refine dk_of (q := pc + 1) ?_ rfl
  have h1 : (Jvm.ClassFile.Reader.u1 : Jvm.ClassFile.Decoder Nat) cd pc = Except.ok (126, pc + 1) := dk_u1 h
  unfold Jvm.ClassFile.Decoder.instr
  refine (dk_b h1).trans ?_
  rfl
set_option maxRecDepth 100000 in
theorem dk_2b (h : cd.data.toList[pc]? = some 0x2b) : decode cd pc = Except.ok (.aload_n 1, 1) := by
  refine dk_of (q := pc + 1) ?_ rfl
  have h1 : (Jvm.ClassFile.Reader.u1 : Jvm.ClassFile.Decoder Nat) cd pc = Except.ok (43, pc + 1) := dk_u1 h
  unfold Jvm.ClassFile.Decoder.instr
  refine (dk_b h1).trans ?_
  rfl
set_option maxRecDepth 100000 in
theorem dk_04 (h : cd.data.toList[pc]? = some 0x04) : decode cd pc = Except.ok (.iconst 1, 1) := by
  refine dk_of (q := pc + 1) ?_ rfl
  have h1 : (Jvm.ClassFile.Reader.u1 : Jvm.ClassFile.Decoder Nat) cd pc = Except.ok (4, pc + 1) := dk_u1 h
  unfold Jvm.ClassFile.Decoder.instr
  refine (dk_b h1).trans ?_
  rfl
set_option maxRecDepth 100000 in
theorem dk_60 (h : cd.data.toList[pc]? = some 0x60) : decode cd pc = Except.ok (.iadd, 1) := by
  refine dk_of (q := pc + 1) ?_ rfl
  have h1 : (Jvm.ClassFile.Reader.u1 : Jvm.ClassFile.Decoder Nat) cd pc = Except.ok (96, pc + 1) := dk_u1 h
  unfold Jvm.ClassFile.Decoder.instr
  refine (dk_b h1).trans ?_
  rfl
set_option maxRecDepth 100000 in
theorem dk_b6 (h : cd.data.toList[pc]? = some 0xb6) {a b : UInt8} (g1 : cd.data.toList[pc + 1]? = some a) (g2 : cd.data.toList[pc + 2]? = some b) {n : Nat} (hn : a.toNat * 256 + b.toNat = n) : decode cd pc = Except.ok (.invokevirtual n, 3) := by
  subst hn
  refine dk_of (q := pc + 1 + 1 + 1) ?_ rfl
  have h1 : (Jvm.ClassFile.Reader.u1 : Jvm.ClassFile.Decoder Nat) cd pc = Except.ok (182, pc + 1) := dk_u1 h
  unfold Jvm.ClassFile.Decoder.instr
  refine (dk_b h1).trans ?_
  exact (dk_b (dk_u2 g1 g2)).trans rfl
set_option maxRecDepth 100000 in
theorem dk_2c (h : cd.data.toList[pc]? = some 0x2c) : decode cd pc = Except.ok (.aload_n 2, 1) := by
  refine dk_of (q := pc + 1) ?_ rfl
  have h1 : (Jvm.ClassFile.Reader.u1 : Jvm.ClassFile.Decoder Nat) cd pc = Except.ok (44, pc + 1) := dk_u1 h
  unfold Jvm.ClassFile.Decoder.instr
  refine (dk_b h1).trans ?_
  rfl
set_option maxRecDepth 100000 in
theorem dk_9f (h : cd.data.toList[pc]? = some 0x9f) {a b : UInt8} (g1 : cd.data.toList[pc + 1]? = some a) (g2 : cd.data.toList[pc + 2]? = some b) {n : Int} (hn : Jvm.ClassFile.Reader.signed 16 (a.toNat * 256 + b.toNat) = n) : decode cd pc = Except.ok (.if_icmp .eq n, 3) := by
  subst hn
  refine dk_of (q := pc + 1 + 1 + 1) ?_ rfl
  have h1 : (Jvm.ClassFile.Reader.u1 : Jvm.ClassFile.Decoder Nat) cd pc = Except.ok (159, pc + 1) := dk_u1 h
  unfold Jvm.ClassFile.Decoder.instr
  refine (dk_b h1).trans ?_
  exact (dk_b (dk_s2 g1 g2)).trans rfl
set_option maxRecDepth 100000 in
theorem dk_ac (h : cd.data.toList[pc]? = some 0xac) : decode cd pc = Except.ok (.ireturn, 1) := by
  refine dk_of (q := pc + 1) ?_ rfl
  have h1 : (Jvm.ClassFile.Reader.u1 : Jvm.ClassFile.Decoder Nat) cd pc = Except.ok (172, pc + 1) := dk_u1 h
  unfold Jvm.ClassFile.Decoder.instr
  refine (dk_b h1).trans ?_
  rfl
set_option maxRecDepth 100000 in
theorem dk_05 (h : cd.data.toList[pc]? = some 0x05) : decode cd pc = Except.ok (.iconst 2, 1) := by
  refine dk_of (q := pc + 1) ?_ rfl
  have h1 : (Jvm.ClassFile.Reader.u1 : Jvm.ClassFile.Decoder Nat) cd pc = Except.ok (5, pc + 1) := dk_u1 h
  unfold Jvm.ClassFile.Decoder.instr
  refine (dk_b h1).trans ?_
  rfl
set_option maxRecDepth 100000 in
theorem dk_06 (h : cd.data.toList[pc]? = some 0x06) : decode cd pc = Except.ok (.iconst 3, 1) := by
  refine dk_of (q := pc + 1) ?_ rfl
  have h1 : (Jvm.ClassFile.Reader.u1 : Jvm.ClassFile.Decoder Nat) cd pc = Except.ok (6, pc + 1) := dk_u1 h
  unfold Jvm.ClassFile.Decoder.instr
  refine (dk_b h1).trans ?_
  rfl
set_option maxRecDepth 100000 in
theorem dk_85 (h : cd.data.toList[pc]? = some 0x85) : decode cd pc = Except.ok (.i2l, 1) := by
  refine dk_of (q := pc + 1) ?_ rfl
  have h1 : (Jvm.ClassFile.Reader.u1 : Jvm.ClassFile.Decoder Nat) cd pc = Except.ok (133, pc + 1) := dk_u1 h
  unfold Jvm.ClassFile.Decoder.instr
  refine (dk_b h1).trans ?_
  rfl
set_option maxRecDepth 100000 in
theorem dk_79 (h : cd.data.toList[pc]? = some 0x79) : decode cd pc = Except.ok (.lshl, 1) := by
  refine dk_of (q := pc + 1) ?_ rfl
  have h1 : (Jvm.ClassFile.Reader.u1 : Jvm.ClassFile.Decoder Nat) cd pc = Except.ok (121, pc + 1) := dk_u1 h
  unfold Jvm.ClassFile.Decoder.instr
  refine (dk_b h1).trans ?_
  rfl
set_option maxRecDepth 100000 in
theorem dk_14 (h : cd.data.toList[pc]? = some 0x14) {a b : UInt8} (g1 : cd.data.toList[pc + 1]? = some a) (g2 : cd.data.toList[pc + 2]? = some b) {n : Nat} (hn : a.toNat * 256 + b.toNat = n) : decode cd pc = Except.ok (.ldc2_w n, 3) := by
  subst hn
  refine dk_of (q := pc + 1 + 1 + 1) ?_ rfl
  have h1 : (Jvm.ClassFile.Reader.u1 : Jvm.ClassFile.Decoder Nat) cd pc = Except.ok (20, pc + 1) := dk_u1 h
  unfold Jvm.ClassFile.Decoder.instr
  refine (dk_b h1).trans ?_
  exact (dk_b (dk_u2 g1 g2)).trans rfl
set_option maxRecDepth 100000 in
theorem dk_7f (h : cd.data.toList[pc]? = some 0x7f) : decode cd pc = Except.ok (.land, 1) := by
  refine dk_of (q := pc + 1) ?_ rfl
  have h1 : (Jvm.ClassFile.Reader.u1 : Jvm.ClassFile.Decoder Nat) cd pc = Except.ok (127, pc + 1) := dk_u1 h
  unfold Jvm.ClassFile.Decoder.instr
  refine (dk_b h1).trans ?_
  rfl
set_option maxRecDepth 100000 in
theorem dk_81 (h : cd.data.toList[pc]? = some 0x81) : decode cd pc = Except.ok (.lor, 1) := by
  refine dk_of (q := pc + 1) ?_ rfl
  have h1 : (Jvm.ClassFile.Reader.u1 : Jvm.ClassFile.Decoder Nat) cd pc = Except.ok (129, pc + 1) := dk_u1 h
  unfold Jvm.ClassFile.Decoder.instr
  refine (dk_b h1).trans ?_
  rfl
set_option maxRecDepth 100000 in
theorem dk_99 (h : cd.data.toList[pc]? = some 0x99) {a b : UInt8} (g1 : cd.data.toList[pc + 1]? = some a) (g2 : cd.data.toList[pc + 2]? = some b) {n : Int} (hn : Jvm.ClassFile.Reader.signed 16 (a.toNat * 256 + b.toNat) = n) : decode cd pc = Except.ok (.ifCond .eq n, 3) := by
  subst hn
  refine dk_of (q := pc + 1 + 1 + 1) ?_ rfl
  have h1 : (Jvm.ClassFile.Reader.u1 : Jvm.ClassFile.Decoder Nat) cd pc = Except.ok (153, pc + 1) := dk_u1 h
  unfold Jvm.ClassFile.Decoder.instr
  refine (dk_b h1).trans ?_
  exact (dk_b (dk_s2 g1 g2)).trans rfl
set_option maxRecDepth 100000 in
theorem dk_a7 (h : cd.data.toList[pc]? = some 0xa7) {a b : UInt8} (g1 : cd.data.toList[pc + 1]? = some a) (g2 : cd.data.toList[pc + 2]? = some b) {n : Int} (hn : Jvm.ClassFile.Reader.signed 16 (a.toNat * 256 + b.toNat) = n) : decode cd pc = Except.ok (.goto n, 3) := by
  subst hn
  refine dk_of (q := pc + 1 + 1 + 1) ?_ rfl
  have h1 : (Jvm.ClassFile.Reader.u1 : Jvm.ClassFile.Decoder Nat) cd pc = Except.ok (167, pc + 1) := dk_u1 h
  unfold Jvm.ClassFile.Decoder.instr
  refine (dk_b h1).trans ?_
  exact (dk_b (dk_s2 g1 g2)).trans rfl
set_option maxRecDepth 100000 in
theorem dk_94 (h : cd.data.toList[pc]? = some 0x94) : decode cd pc = Except.ok (.lcmp, 1) := by
  refine dk_of (q := pc + 1) ?_ rfl
  have h1 : (Jvm.ClassFile.Reader.u1 : Jvm.ClassFile.Decoder Nat) cd pc = Except.ok (148, pc + 1) := dk_u1 h
  unfold Jvm.ClassFile.Decoder.instr
  refine (dk_b h1).trans ?_
  rfl
set_option maxRecDepth 100000 in
theorem dk_84 (h : cd.data.toList[pc]? = some 0x84) {a b : UInt8} (g1 : cd.data.toList[pc + 1]? = some a) (g2 : cd.data.toList[pc + 2]? = some b) {n : Nat} {k : Int} (hn : a.toNat = n) (hk : Jvm.ClassFile.Reader.signed 8 b.toNat = k) : decode cd pc = Except.ok (.iinc n k, 3) := by
  subst hn hk
  refine dk_of (q := pc + 1 + 1 + 1) ?_ rfl
  have h1 : (Jvm.ClassFile.Reader.u1 : Jvm.ClassFile.Decoder Nat) cd pc = Except.ok (132, pc + 1) := dk_u1 h
  unfold Jvm.ClassFile.Decoder.instr
  refine (dk_b h1).trans ?_
  exact (dk_b (dk_u1 g1)).trans ((dk_b (dk_s1 g2)).trans rfl)
end DK
