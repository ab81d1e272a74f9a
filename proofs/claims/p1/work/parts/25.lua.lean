/-! ===== the best unloading of empty lanes: the loop over all that may be taken ===== -/
def lu_A (g : Nat → Int32) : va_E := .inl (0, 4, .inl g)
def lu_w (W : mm_W) (g : Nat → Int32) : mm_W := W.set 247 (lu_A g)
def lu_F (W : mm_W) (fs : List Value) (nf : Nat → Int32) : Prop := 247 < W.length ∧ W[236]? = some (.inr (11, fs)) ∧ fs[13]? = some (.ref 238) ∧ fs[30]? = some (.ref 247) ∧ W[238]? = some (.inl (0, 200, .inl nf)) ∧ nf 98 = 0 ∧ nf 99 = 0 ∧ nf 100 = 0 ∧ nf 101 = 0
section LU
variable {xa : mm_Xa} {W : mm_W} {fs : List Value} {nf : Nat → Int32} {g : Nat → Int32} {d b c : Nat} {o : mm_O}
theorem lu_gf (H : lu_F W fs nf) {f : Nat} {v : Value} (hf : fs[f]? = some v) : mm_getf (lu_w W g) 236 11 f = some v := by
  unfold mm_getf lu_w
  rw [List.getElem?_set_ne (by decide), H.2.1]
  dsimp only
  rw [if_pos rfl, hf]
theorem lu_cl (H : lu_F W fs nf) : mm_cls (lu_w W g) 236 = some 11 := by
  unfold mm_cls lu_w
  rw [if_pos (by decide), List.getElem?_set_ne (by decide), H.2.1]
theorem lu_e247 (H : lu_F W fs nf) : (lu_w W g)[247]? = some (lu_A g) := by
  unfold lu_w
  rw [List.getElem?_set_self H.1]
theorem lu_at (H : lu_F W fs nf) {i : Int32} {k : Nat} {v : Int32} (hb : mm_ib i 4 = true) (hk : i.toNatClampNeg = k) (hv : g k = v) : mm_aget xa (lu_w W g) 247 i = some (0, .int v) := by
  unfold mm_aget
  rw [if_pos (by decide), lu_e247 H]
  unfold lu_A
  dsimp only
  rw [if_pos hb, hk, hv]
theorem lu_an (H : lu_F W fs nf) {i : Int32} {k : Nat} {v : Int32} (hb : mm_ib i 200 = true) (hk : i.toNatClampNeg = k) (hv : nf k = v) : mm_aget xa (lu_w W g) 238 i = some (0, .int v) := by
  unfold mm_aget
  rw [if_pos (by decide)]
  unfold lu_w
  rw [List.getElem?_set_ne (by decide), H.2.2.2.2.1]
  dsimp only
  rw [if_pos hb, hk, hv]
theorem lu_pt (H : lu_F W fs nf) {i x : Int32} {k : Nat} (hb : mm_ib i 4 = true) (hk : i.toNatClampNeg = k) : mm_aputi (lu_w W g) 247 i x = some (0, lu_w W (upd g k x)) := by
  unfold mm_aputi
  rw [lu_e247 H]
  unfold lu_A
  dsimp only
  rw [if_pos hb, hk]
  unfold lu_w
  rw [List.set_set]
  rfl
def lu_t0 (p : Int32) : Int32 := p / 343
def lu_t1 (p : Int32) : Int32 := p / 49 - p / 49 / 7 * 7
def lu_t2 (p : Int32) : Int32 := p / 7 - p / 7 / 7 * 7
def lu_t3 (p : Int32) : Int32 := p - p / 7 * 7
def lu_g (g : Nat → Int32) (p : Int32) : Nat → Int32 := upd (upd (upd (upd g 0 (lu_t0 p)) 1 (lu_t1 p)) 2 (lu_t2 p)) 3 (lu_t3 p)
theorem lu_unpacks (H : lu_F W fs nf) (p : Int32) : Ev xa d 301 (0, [(0, .ref 236), (1, .int p)], [], lu_w W g, b, c) (.inl none, lu_w W (lu_g g p), b, c) :=
  ev_aload_n (i := 0) (nx := 1) (r1 := 0) (r2 := 0) (r3 := 0) rfl (x := 236) rfl <|
  ev_getfield (nx := 4) (r1 := 11) (r2 := 30) (r3 := 0) rfl rfl (by decide) (lu_gf H H.2.2.2.1) <|
  ev_iconst (n := 0) (nx := 5) (r1 := 0) (r2 := 0) (r3 := 0) rfl (v := 0) (by decide) <|
  ev_iload_n (i := 1) (nx := 6) (r1 := 0) (r2 := 0) (r3 := 0) rfl (x := p) rfl <|
  ev_sipush (n := 343) (nx := 9) (r1 := 0) (r2 := 0) (r3 := 0) rfl (v := 343) (by decide) <|
  ev_idiv (nx := 10) (r1 := 0) (r2 := 0) (r3 := 0) rfl (by decide) (v := lu_t0 p) rfl <|
  ev_iastore (nx := 11) (r1 := 0) (r2 := 0) (r3 := 0) rfl (by decide) (lu_pt H (i := 0) (k := 0) rfl rfl) <|
  ev_aload_n (i := 0) (nx := 12) (r1 := 0) (r2 := 0) (r3 := 0) rfl (x := 236) rfl <|
  ev_getfield (nx := 15) (r1 := 11) (r2 := 30) (r3 := 0) rfl rfl (by decide) (lu_gf H H.2.2.2.1) <|
  ev_iconst (n := 1) (nx := 16) (r1 := 0) (r2 := 0) (r3 := 0) rfl (v := 1) (by decide) <|
  ev_iload_n (i := 1) (nx := 17) (r1 := 0) (r2 := 0) (r3 := 0) rfl (x := p) rfl <|
  ev_bipush (n := 49) (nx := 19) (r1 := 0) (r2 := 0) (r3 := 0) rfl (v := 49) (by decide) <|
  ev_idiv (nx := 20) (r1 := 0) (r2 := 0) (r3 := 0) rfl (by decide) rfl <|
  ev_bipush (n := 7) (nx := 22) (r1 := 0) (r2 := 0) (r3 := 0) rfl (v := 7) (by decide) <|
  ev_irem (nx := 23) (r1 := 0) (r2 := 0) (r3 := 0) rfl (by decide) (v := lu_t1 p) rfl <|
  ev_iastore (nx := 24) (r1 := 0) (r2 := 0) (r3 := 0) rfl (by decide) (lu_pt H (i := 1) (k := 1) rfl rfl) <|
  ev_aload_n (i := 0) (nx := 25) (r1 := 0) (r2 := 0) (r3 := 0) rfl (x := 236) rfl <|
  ev_getfield (nx := 28) (r1 := 11) (r2 := 30) (r3 := 0) rfl rfl (by decide) (lu_gf H H.2.2.2.1) <|
  ev_iconst (n := 2) (nx := 29) (r1 := 0) (r2 := 0) (r3 := 0) rfl (v := 2) (by decide) <|
  ev_iload_n (i := 1) (nx := 30) (r1 := 0) (r2 := 0) (r3 := 0) rfl (x := p) rfl <|
  ev_bipush (n := 7) (nx := 32) (r1 := 0) (r2 := 0) (r3 := 0) rfl (v := 7) (by decide) <|
  ev_idiv (nx := 33) (r1 := 0) (r2 := 0) (r3 := 0) rfl (by decide) rfl <|
  ev_bipush (n := 7) (nx := 35) (r1 := 0) (r2 := 0) (r3 := 0) rfl (v := 7) (by decide) <|
  ev_irem (nx := 36) (r1 := 0) (r2 := 0) (r3 := 0) rfl (by decide) (v := lu_t2 p) rfl <|
  ev_iastore (nx := 37) (r1 := 0) (r2 := 0) (r3 := 0) rfl (by decide) (lu_pt H (i := 2) (k := 2) rfl rfl) <|
  ev_aload_n (i := 0) (nx := 38) (r1 := 0) (r2 := 0) (r3 := 0) rfl (x := 236) rfl <|
  ev_getfield (nx := 41) (r1 := 11) (r2 := 30) (r3 := 0) rfl rfl (by decide) (lu_gf H H.2.2.2.1) <|
  ev_iconst (n := 3) (nx := 42) (r1 := 0) (r2 := 0) (r3 := 0) rfl (v := 3) (by decide) <|
  ev_iload_n (i := 1) (nx := 43) (r1 := 0) (r2 := 0) (r3 := 0) rfl (x := p) rfl <|
  ev_bipush (n := 7) (nx := 45) (r1 := 0) (r2 := 0) (r3 := 0) rfl (v := 7) (by decide) <|
  ev_irem (nx := 46) (r1 := 0) (r2 := 0) (r3 := 0) rfl (by decide) (v := lu_t3 p) rfl <|
  ev_iastore (nx := 47) (r1 := 0) (r2 := 0) (r3 := 0) rfl (by decide) (lu_pt H (i := 3) (k := 3) rfl rfl) <|
  ev_return (nx := 48) (r1 := 0) (r2 := 0) (r3 := 0) rfl rfl
theorem lu_wi0 (H : lu_F W fs nf) (q0 : mm_cmp .le (g 0) 0 = false) : Ev xa d 302 (0, [(0, .ref 236)], [], lu_w W g, b, c) (.inl (some (.int 0)), lu_w W g, b, c) :=
  ev_iconst (n := 0) (nx := 1) (r1 := 0) (r2 := 0) (r3 := 0) rfl (v := 0) (by decide) <|
  ev_istore_n (i := 1) (nx := 2) (r1 := 0) (r2 := 0) (r3 := 0) rfl (lo2 := [(1, .int 0), (0, .ref 236)]) rfl <|
  ev_iload_n (i := 1) (nx := 3) (r1 := 0) (r2 := 0) (r3 := 0) rfl (x := 0) rfl <|
  ev_iconst (n := 4) (nx := 4) (r1 := 0) (r2 := 0) (r3 := 0) rfl (v := 4) (by decide) <|
  ev_icmp_f (cd := .ge) (nx := 7) (r1 := 33) (r2 := 0) (r3 := 0) rfl (by decide) <|
  ev_aload_n (i := 0) (nx := 8) (r1 := 0) (r2 := 0) (r3 := 0) rfl (x := 236) rfl <|
  ev_getfield (nx := 11) (r1 := 11) (r2 := 30) (r3 := 0) rfl rfl (by decide) (lu_gf H H.2.2.2.1) <|
  ev_iload_n (i := 1) (nx := 12) (r1 := 0) (r2 := 0) (r3 := 0) rfl (x := 0) rfl <|
  ev_iaload (nx := 13) (r1 := 0) (r2 := 0) (r3 := 0) rfl (lu_at H (i := 0) (k := 0) rfl rfl rfl) <|
  ev_aload_n (i := 0) (nx := 14) (r1 := 0) (r2 := 0) (r3 := 0) rfl (x := 236) rfl <|
  ev_getfield (nx := 17) (r1 := 11) (r2 := 13) (r3 := 0) rfl rfl (by decide) (lu_gf H H.2.2.1) <|
  ev_bipush (n := 98) (nx := 19) (r1 := 0) (r2 := 0) (r3 := 0) rfl (v := 98) (by decide) <|
  ev_iload_n (i := 1) (nx := 20) (r1 := 0) (r2 := 0) (r3 := 0) rfl (x := 0) rfl <|
  ev_iadd (nx := 21) (r1 := 0) (r2 := 0) (r3 := 0) rfl (v := 98) (by decide) <|
  ev_iaload (nx := 22) (r1 := 0) (r2 := 0) (r3 := 0) rfl (lu_an H (i := 98) (k := 98) rfl rfl H.2.2.2.2.2.1) <|
  ev_icmp_f (cd := .le) (nx := 25) (r1 := 27) (r2 := 0) (r3 := 0) rfl q0 <|
  ev_iconst (n := 0) (nx := 26) (r1 := 0) (r2 := 0) (r3 := 0) rfl (v := 0) (by decide) <|
  ev_ireturn (ty := .boolean) (nx := 27) (r1 := 0) (r2 := 0) (r3 := 0) rfl rfl rfl
theorem lu_wi1 (H : lu_F W fs nf) (q0 : mm_cmp .le (g 0) 0 = true) (q1 : mm_cmp .le (g 1) 0 = false) : Ev xa d 302 (0, [(0, .ref 236)], [], lu_w W g, b, c) (.inl (some (.int 0)), lu_w W g, b, c) :=
  ev_iconst (n := 0) (nx := 1) (r1 := 0) (r2 := 0) (r3 := 0) rfl (v := 0) (by decide) <|
  ev_istore_n (i := 1) (nx := 2) (r1 := 0) (r2 := 0) (r3 := 0) rfl (lo2 := [(1, .int 0), (0, .ref 236)]) rfl <|
  ev_iload_n (i := 1) (nx := 3) (r1 := 0) (r2 := 0) (r3 := 0) rfl (x := 0) rfl <|
  ev_iconst (n := 4) (nx := 4) (r1 := 0) (r2 := 0) (r3 := 0) rfl (v := 4) (by decide) <|
  ev_icmp_f (cd := .ge) (nx := 7) (r1 := 33) (r2 := 0) (r3 := 0) rfl (by decide) <|
  ev_aload_n (i := 0) (nx := 8) (r1 := 0) (r2 := 0) (r3 := 0) rfl (x := 236) rfl <|
  ev_getfield (nx := 11) (r1 := 11) (r2 := 30) (r3 := 0) rfl rfl (by decide) (lu_gf H H.2.2.2.1) <|
  ev_iload_n (i := 1) (nx := 12) (r1 := 0) (r2 := 0) (r3 := 0) rfl (x := 0) rfl <|
  ev_iaload (nx := 13) (r1 := 0) (r2 := 0) (r3 := 0) rfl (lu_at H (i := 0) (k := 0) rfl rfl rfl) <|
  ev_aload_n (i := 0) (nx := 14) (r1 := 0) (r2 := 0) (r3 := 0) rfl (x := 236) rfl <|
  ev_getfield (nx := 17) (r1 := 11) (r2 := 13) (r3 := 0) rfl rfl (by decide) (lu_gf H H.2.2.1) <|
  ev_bipush (n := 98) (nx := 19) (r1 := 0) (r2 := 0) (r3 := 0) rfl (v := 98) (by decide) <|
  ev_iload_n (i := 1) (nx := 20) (r1 := 0) (r2 := 0) (r3 := 0) rfl (x := 0) rfl <|
  ev_iadd (nx := 21) (r1 := 0) (r2 := 0) (r3 := 0) rfl (v := 98) (by decide) <|
  ev_iaload (nx := 22) (r1 := 0) (r2 := 0) (r3 := 0) rfl (lu_an H (i := 98) (k := 98) rfl rfl H.2.2.2.2.2.1) <|
  ev_icmp_t (cd := .le) (nx := 25) (r1 := 27) (r2 := 0) (r3 := 0) rfl q0 <|
  ev_iinc (i := 1) (n := 1) (nx := 30) (r1 := 0) (r2 := 0) (r3 := 0) rfl (x := 0) (v := 1) (lo2 := [(1, .int 1), (0, .ref 236)]) rfl (by decide) rfl <|
  ev_goto (nx := 33) (r1 := 2) (r2 := 0) (r3 := 0) rfl <|
  ev_iload_n (i := 1) (nx := 3) (r1 := 0) (r2 := 0) (r3 := 0) rfl (x := 1) rfl <|
  ev_iconst (n := 4) (nx := 4) (r1 := 0) (r2 := 0) (r3 := 0) rfl (v := 4) (by decide) <|
  ev_icmp_f (cd := .ge) (nx := 7) (r1 := 33) (r2 := 0) (r3 := 0) rfl (by decide) <|
  ev_aload_n (i := 0) (nx := 8) (r1 := 0) (r2 := 0) (r3 := 0) rfl (x := 236) rfl <|
  ev_getfield (nx := 11) (r1 := 11) (r2 := 30) (r3 := 0) rfl rfl (by decide) (lu_gf H H.2.2.2.1) <|
  ev_iload_n (i := 1) (nx := 12) (r1 := 0) (r2 := 0) (r3 := 0) rfl (x := 1) rfl <|
  ev_iaload (nx := 13) (r1 := 0) (r2 := 0) (r3 := 0) rfl (lu_at H (i := 1) (k := 1) rfl rfl rfl) <|
  ev_aload_n (i := 0) (nx := 14) (r1 := 0) (r2 := 0) (r3 := 0) rfl (x := 236) rfl <|
  ev_getfield (nx := 17) (r1 := 11) (r2 := 13) (r3 := 0) rfl rfl (by decide) (lu_gf H H.2.2.1) <|
  ev_bipush (n := 98) (nx := 19) (r1 := 0) (r2 := 0) (r3 := 0) rfl (v := 98) (by decide) <|
  ev_iload_n (i := 1) (nx := 20) (r1 := 0) (r2 := 0) (r3 := 0) rfl (x := 1) rfl <|
  ev_iadd (nx := 21) (r1 := 0) (r2 := 0) (r3 := 0) rfl (v := 99) (by decide) <|
  ev_iaload (nx := 22) (r1 := 0) (r2 := 0) (r3 := 0) rfl (lu_an H (i := 99) (k := 99) rfl rfl H.2.2.2.2.2.2.1) <|
  ev_icmp_f (cd := .le) (nx := 25) (r1 := 27) (r2 := 0) (r3 := 0) rfl q1 <|
  ev_iconst (n := 0) (nx := 26) (r1 := 0) (r2 := 0) (r3 := 0) rfl (v := 0) (by decide) <|
  ev_ireturn (ty := .boolean) (nx := 27) (r1 := 0) (r2 := 0) (r3 := 0) rfl rfl rfl
theorem lu_wi2 (H : lu_F W fs nf) (q0 : mm_cmp .le (g 0) 0 = true) (q1 : mm_cmp .le (g 1) 0 = true) (q2 : mm_cmp .le (g 2) 0 = false) : Ev xa d 302 (0, [(0, .ref 236)], [], lu_w W g, b, c) (.inl (some (.int 0)), lu_w W g, b, c) :=
  ev_iconst (n := 0) (nx := 1) (r1 := 0) (r2 := 0) (r3 := 0) rfl (v := 0) (by decide) <|
  ev_istore_n (i := 1) (nx := 2) (r1 := 0) (r2 := 0) (r3 := 0) rfl (lo2 := [(1, .int 0), (0, .ref 236)]) rfl <|
  ev_iload_n (i := 1) (nx := 3) (r1 := 0) (r2 := 0) (r3 := 0) rfl (x := 0) rfl <|
  ev_iconst (n := 4) (nx := 4) (r1 := 0) (r2 := 0) (r3 := 0) rfl (v := 4) (by decide) <|
  ev_icmp_f (cd := .ge) (nx := 7) (r1 := 33) (r2 := 0) (r3 := 0) rfl (by decide) <|
  ev_aload_n (i := 0) (nx := 8) (r1 := 0) (r2 := 0) (r3 := 0) rfl (x := 236) rfl <|
  ev_getfield (nx := 11) (r1 := 11) (r2 := 30) (r3 := 0) rfl rfl (by decide) (lu_gf H H.2.2.2.1) <|
  ev_iload_n (i := 1) (nx := 12) (r1 := 0) (r2 := 0) (r3 := 0) rfl (x := 0) rfl <|
  ev_iaload (nx := 13) (r1 := 0) (r2 := 0) (r3 := 0) rfl (lu_at H (i := 0) (k := 0) rfl rfl rfl) <|
  ev_aload_n (i := 0) (nx := 14) (r1 := 0) (r2 := 0) (r3 := 0) rfl (x := 236) rfl <|
  ev_getfield (nx := 17) (r1 := 11) (r2 := 13) (r3 := 0) rfl rfl (by decide) (lu_gf H H.2.2.1) <|
  ev_bipush (n := 98) (nx := 19) (r1 := 0) (r2 := 0) (r3 := 0) rfl (v := 98) (by decide) <|
  ev_iload_n (i := 1) (nx := 20) (r1 := 0) (r2 := 0) (r3 := 0) rfl (x := 0) rfl <|
  ev_iadd (nx := 21) (r1 := 0) (r2 := 0) (r3 := 0) rfl (v := 98) (by decide) <|
  ev_iaload (nx := 22) (r1 := 0) (r2 := 0) (r3 := 0) rfl (lu_an H (i := 98) (k := 98) rfl rfl H.2.2.2.2.2.1) <|
  ev_icmp_t (cd := .le) (nx := 25) (r1 := 27) (r2 := 0) (r3 := 0) rfl q0 <|
  ev_iinc (i := 1) (n := 1) (nx := 30) (r1 := 0) (r2 := 0) (r3 := 0) rfl (x := 0) (v := 1) (lo2 := [(1, .int 1), (0, .ref 236)]) rfl (by decide) rfl <|
  ev_goto (nx := 33) (r1 := 2) (r2 := 0) (r3 := 0) rfl <|
  ev_iload_n (i := 1) (nx := 3) (r1 := 0) (r2 := 0) (r3 := 0) rfl (x := 1) rfl <|
  ev_iconst (n := 4) (nx := 4) (r1 := 0) (r2 := 0) (r3 := 0) rfl (v := 4) (by decide) <|
  ev_icmp_f (cd := .ge) (nx := 7) (r1 := 33) (r2 := 0) (r3 := 0) rfl (by decide) <|
  ev_aload_n (i := 0) (nx := 8) (r1 := 0) (r2 := 0) (r3 := 0) rfl (x := 236) rfl <|
  ev_getfield (nx := 11) (r1 := 11) (r2 := 30) (r3 := 0) rfl rfl (by decide) (lu_gf H H.2.2.2.1) <|
  ev_iload_n (i := 1) (nx := 12) (r1 := 0) (r2 := 0) (r3 := 0) rfl (x := 1) rfl <|
  ev_iaload (nx := 13) (r1 := 0) (r2 := 0) (r3 := 0) rfl (lu_at H (i := 1) (k := 1) rfl rfl rfl) <|
  ev_aload_n (i := 0) (nx := 14) (r1 := 0) (r2 := 0) (r3 := 0) rfl (x := 236) rfl <|
  ev_getfield (nx := 17) (r1 := 11) (r2 := 13) (r3 := 0) rfl rfl (by decide) (lu_gf H H.2.2.1) <|
  ev_bipush (n := 98) (nx := 19) (r1 := 0) (r2 := 0) (r3 := 0) rfl (v := 98) (by decide) <|
  ev_iload_n (i := 1) (nx := 20) (r1 := 0) (r2 := 0) (r3 := 0) rfl (x := 1) rfl <|
  ev_iadd (nx := 21) (r1 := 0) (r2 := 0) (r3 := 0) rfl (v := 99) (by decide) <|
  ev_iaload (nx := 22) (r1 := 0) (r2 := 0) (r3 := 0) rfl (lu_an H (i := 99) (k := 99) rfl rfl H.2.2.2.2.2.2.1) <|
  ev_icmp_t (cd := .le) (nx := 25) (r1 := 27) (r2 := 0) (r3 := 0) rfl q1 <|
  ev_iinc (i := 1) (n := 1) (nx := 30) (r1 := 0) (r2 := 0) (r3 := 0) rfl (x := 1) (v := 2) (lo2 := [(1, .int 2), (0, .ref 236)]) rfl (by decide) rfl <|
  ev_goto (nx := 33) (r1 := 2) (r2 := 0) (r3 := 0) rfl <|
  ev_iload_n (i := 1) (nx := 3) (r1 := 0) (r2 := 0) (r3 := 0) rfl (x := 2) rfl <|
  ev_iconst (n := 4) (nx := 4) (r1 := 0) (r2 := 0) (r3 := 0) rfl (v := 4) (by decide) <|
  ev_icmp_f (cd := .ge) (nx := 7) (r1 := 33) (r2 := 0) (r3 := 0) rfl (by decide) <|
  ev_aload_n (i := 0) (nx := 8) (r1 := 0) (r2 := 0) (r3 := 0) rfl (x := 236) rfl <|
  ev_getfield (nx := 11) (r1 := 11) (r2 := 30) (r3 := 0) rfl rfl (by decide) (lu_gf H H.2.2.2.1) <|
  ev_iload_n (i := 1) (nx := 12) (r1 := 0) (r2 := 0) (r3 := 0) rfl (x := 2) rfl <|
  ev_iaload (nx := 13) (r1 := 0) (r2 := 0) (r3 := 0) rfl (lu_at H (i := 2) (k := 2) rfl rfl rfl) <|
  ev_aload_n (i := 0) (nx := 14) (r1 := 0) (r2 := 0) (r3 := 0) rfl (x := 236) rfl <|
  ev_getfield (nx := 17) (r1 := 11) (r2 := 13) (r3 := 0) rfl rfl (by decide) (lu_gf H H.2.2.1) <|
  ev_bipush (n := 98) (nx := 19) (r1 := 0) (r2 := 0) (r3 := 0) rfl (v := 98) (by decide) <|
  ev_iload_n (i := 1) (nx := 20) (r1 := 0) (r2 := 0) (r3 := 0) rfl (x := 2) rfl <|
  ev_iadd (nx := 21) (r1 := 0) (r2 := 0) (r3 := 0) rfl (v := 100) (by decide) <|
  ev_iaload (nx := 22) (r1 := 0) (r2 := 0) (r3 := 0) rfl (lu_an H (i := 100) (k := 100) rfl rfl H.2.2.2.2.2.2.2.1) <|
  ev_icmp_f (cd := .le) (nx := 25) (r1 := 27) (r2 := 0) (r3 := 0) rfl q2 <|
  ev_iconst (n := 0) (nx := 26) (r1 := 0) (r2 := 0) (r3 := 0) rfl (v := 0) (by decide) <|
  ev_ireturn (ty := .boolean) (nx := 27) (r1 := 0) (r2 := 0) (r3 := 0) rfl rfl rfl
theorem lu_wi3 (H : lu_F W fs nf) (q0 : mm_cmp .le (g 0) 0 = true) (q1 : mm_cmp .le (g 1) 0 = true) (q2 : mm_cmp .le (g 2) 0 = true) (q3 : mm_cmp .le (g 3) 0 = false) : Ev xa d 302 (0, [(0, .ref 236)], [], lu_w W g, b, c) (.inl (some (.int 0)), lu_w W g, b, c) :=
  ev_iconst (n := 0) (nx := 1) (r1 := 0) (r2 := 0) (r3 := 0) rfl (v := 0) (by decide) <|
  ev_istore_n (i := 1) (nx := 2) (r1 := 0) (r2 := 0) (r3 := 0) rfl (lo2 := [(1, .int 0), (0, .ref 236)]) rfl <|
  ev_iload_n (i := 1) (nx := 3) (r1 := 0) (r2 := 0) (r3 := 0) rfl (x := 0) rfl <|
  ev_iconst (n := 4) (nx := 4) (r1 := 0) (r2 := 0) (r3 := 0) rfl (v := 4) (by decide) <|
  ev_icmp_f (cd := .ge) (nx := 7) (r1 := 33) (r2 := 0) (r3 := 0) rfl (by decide) <|
  ev_aload_n (i := 0) (nx := 8) (r1 := 0) (r2 := 0) (r3 := 0) rfl (x := 236) rfl <|
  ev_getfield (nx := 11) (r1 := 11) (r2 := 30) (r3 := 0) rfl rfl (by decide) (lu_gf H H.2.2.2.1) <|
  ev_iload_n (i := 1) (nx := 12) (r1 := 0) (r2 := 0) (r3 := 0) rfl (x := 0) rfl <|
  ev_iaload (nx := 13) (r1 := 0) (r2 := 0) (r3 := 0) rfl (lu_at H (i := 0) (k := 0) rfl rfl rfl) <|
  ev_aload_n (i := 0) (nx := 14) (r1 := 0) (r2 := 0) (r3 := 0) rfl (x := 236) rfl <|
  ev_getfield (nx := 17) (r1 := 11) (r2 := 13) (r3 := 0) rfl rfl (by decide) (lu_gf H H.2.2.1) <|
  ev_bipush (n := 98) (nx := 19) (r1 := 0) (r2 := 0) (r3 := 0) rfl (v := 98) (by decide) <|
  ev_iload_n (i := 1) (nx := 20) (r1 := 0) (r2 := 0) (r3 := 0) rfl (x := 0) rfl <|
  ev_iadd (nx := 21) (r1 := 0) (r2 := 0) (r3 := 0) rfl (v := 98) (by decide) <|
  ev_iaload (nx := 22) (r1 := 0) (r2 := 0) (r3 := 0) rfl (lu_an H (i := 98) (k := 98) rfl rfl H.2.2.2.2.2.1) <|
  ev_icmp_t (cd := .le) (nx := 25) (r1 := 27) (r2 := 0) (r3 := 0) rfl q0 <|
  ev_iinc (i := 1) (n := 1) (nx := 30) (r1 := 0) (r2 := 0) (r3 := 0) rfl (x := 0) (v := 1) (lo2 := [(1, .int 1), (0, .ref 236)]) rfl (by decide) rfl <|
  ev_goto (nx := 33) (r1 := 2) (r2 := 0) (r3 := 0) rfl <|
  ev_iload_n (i := 1) (nx := 3) (r1 := 0) (r2 := 0) (r3 := 0) rfl (x := 1) rfl <|
  ev_iconst (n := 4) (nx := 4) (r1 := 0) (r2 := 0) (r3 := 0) rfl (v := 4) (by decide) <|
  ev_icmp_f (cd := .ge) (nx := 7) (r1 := 33) (r2 := 0) (r3 := 0) rfl (by decide) <|
  ev_aload_n (i := 0) (nx := 8) (r1 := 0) (r2 := 0) (r3 := 0) rfl (x := 236) rfl <|
  ev_getfield (nx := 11) (r1 := 11) (r2 := 30) (r3 := 0) rfl rfl (by decide) (lu_gf H H.2.2.2.1) <|
  ev_iload_n (i := 1) (nx := 12) (r1 := 0) (r2 := 0) (r3 := 0) rfl (x := 1) rfl <|
  ev_iaload (nx := 13) (r1 := 0) (r2 := 0) (r3 := 0) rfl (lu_at H (i := 1) (k := 1) rfl rfl rfl) <|
  ev_aload_n (i := 0) (nx := 14) (r1 := 0) (r2 := 0) (r3 := 0) rfl (x := 236) rfl <|
  ev_getfield (nx := 17) (r1 := 11) (r2 := 13) (r3 := 0) rfl rfl (by decide) (lu_gf H H.2.2.1) <|
  ev_bipush (n := 98) (nx := 19) (r1 := 0) (r2 := 0) (r3 := 0) rfl (v := 98) (by decide) <|
  ev_iload_n (i := 1) (nx := 20) (r1 := 0) (r2 := 0) (r3 := 0) rfl (x := 1) rfl <|
  ev_iadd (nx := 21) (r1 := 0) (r2 := 0) (r3 := 0) rfl (v := 99) (by decide) <|
  ev_iaload (nx := 22) (r1 := 0) (r2 := 0) (r3 := 0) rfl (lu_an H (i := 99) (k := 99) rfl rfl H.2.2.2.2.2.2.1) <|
  ev_icmp_t (cd := .le) (nx := 25) (r1 := 27) (r2 := 0) (r3 := 0) rfl q1 <|
  ev_iinc (i := 1) (n := 1) (nx := 30) (r1 := 0) (r2 := 0) (r3 := 0) rfl (x := 1) (v := 2) (lo2 := [(1, .int 2), (0, .ref 236)]) rfl (by decide) rfl <|
  ev_goto (nx := 33) (r1 := 2) (r2 := 0) (r3 := 0) rfl <|
  ev_iload_n (i := 1) (nx := 3) (r1 := 0) (r2 := 0) (r3 := 0) rfl (x := 2) rfl <|
  ev_iconst (n := 4) (nx := 4) (r1 := 0) (r2 := 0) (r3 := 0) rfl (v := 4) (by decide) <|
  ev_icmp_f (cd := .ge) (nx := 7) (r1 := 33) (r2 := 0) (r3 := 0) rfl (by decide) <|
  ev_aload_n (i := 0) (nx := 8) (r1 := 0) (r2 := 0) (r3 := 0) rfl (x := 236) rfl <|
  ev_getfield (nx := 11) (r1 := 11) (r2 := 30) (r3 := 0) rfl rfl (by decide) (lu_gf H H.2.2.2.1) <|
  ev_iload_n (i := 1) (nx := 12) (r1 := 0) (r2 := 0) (r3 := 0) rfl (x := 2) rfl <|
  ev_iaload (nx := 13) (r1 := 0) (r2 := 0) (r3 := 0) rfl (lu_at H (i := 2) (k := 2) rfl rfl rfl) <|
  ev_aload_n (i := 0) (nx := 14) (r1 := 0) (r2 := 0) (r3 := 0) rfl (x := 236) rfl <|
  ev_getfield (nx := 17) (r1 := 11) (r2 := 13) (r3 := 0) rfl rfl (by decide) (lu_gf H H.2.2.1) <|
  ev_bipush (n := 98) (nx := 19) (r1 := 0) (r2 := 0) (r3 := 0) rfl (v := 98) (by decide) <|
  ev_iload_n (i := 1) (nx := 20) (r1 := 0) (r2 := 0) (r3 := 0) rfl (x := 2) rfl <|
  ev_iadd (nx := 21) (r1 := 0) (r2 := 0) (r3 := 0) rfl (v := 100) (by decide) <|
  ev_iaload (nx := 22) (r1 := 0) (r2 := 0) (r3 := 0) rfl (lu_an H (i := 100) (k := 100) rfl rfl H.2.2.2.2.2.2.2.1) <|
  ev_icmp_t (cd := .le) (nx := 25) (r1 := 27) (r2 := 0) (r3 := 0) rfl q2 <|
  ev_iinc (i := 1) (n := 1) (nx := 30) (r1 := 0) (r2 := 0) (r3 := 0) rfl (x := 2) (v := 3) (lo2 := [(1, .int 3), (0, .ref 236)]) rfl (by decide) rfl <|
  ev_goto (nx := 33) (r1 := 2) (r2 := 0) (r3 := 0) rfl <|
  ev_iload_n (i := 1) (nx := 3) (r1 := 0) (r2 := 0) (r3 := 0) rfl (x := 3) rfl <|
  ev_iconst (n := 4) (nx := 4) (r1 := 0) (r2 := 0) (r3 := 0) rfl (v := 4) (by decide) <|
  ev_icmp_f (cd := .ge) (nx := 7) (r1 := 33) (r2 := 0) (r3 := 0) rfl (by decide) <|
  ev_aload_n (i := 0) (nx := 8) (r1 := 0) (r2 := 0) (r3 := 0) rfl (x := 236) rfl <|
  ev_getfield (nx := 11) (r1 := 11) (r2 := 30) (r3 := 0) rfl rfl (by decide) (lu_gf H H.2.2.2.1) <|
  ev_iload_n (i := 1) (nx := 12) (r1 := 0) (r2 := 0) (r3 := 0) rfl (x := 3) rfl <|
  ev_iaload (nx := 13) (r1 := 0) (r2 := 0) (r3 := 0) rfl (lu_at H (i := 3) (k := 3) rfl rfl rfl) <|
  ev_aload_n (i := 0) (nx := 14) (r1 := 0) (r2 := 0) (r3 := 0) rfl (x := 236) rfl <|
  ev_getfield (nx := 17) (r1 := 11) (r2 := 13) (r3 := 0) rfl rfl (by decide) (lu_gf H H.2.2.1) <|
  ev_bipush (n := 98) (nx := 19) (r1 := 0) (r2 := 0) (r3 := 0) rfl (v := 98) (by decide) <|
  ev_iload_n (i := 1) (nx := 20) (r1 := 0) (r2 := 0) (r3 := 0) rfl (x := 3) rfl <|
  ev_iadd (nx := 21) (r1 := 0) (r2 := 0) (r3 := 0) rfl (v := 101) (by decide) <|
  ev_iaload (nx := 22) (r1 := 0) (r2 := 0) (r3 := 0) rfl (lu_an H (i := 101) (k := 101) rfl rfl H.2.2.2.2.2.2.2.2) <|
  ev_icmp_f (cd := .le) (nx := 25) (r1 := 27) (r2 := 0) (r3 := 0) rfl q3 <|
  ev_iconst (n := 0) (nx := 26) (r1 := 0) (r2 := 0) (r3 := 0) rfl (v := 0) (by decide) <|
  ev_ireturn (ty := .boolean) (nx := 27) (r1 := 0) (r2 := 0) (r3 := 0) rfl rfl rfl
theorem lu_ta (H : lu_F W fs nf) : Ev xa d 303 (0, [(0, .ref 236)], [], lu_w W g, b, c) (.inl (some (.int (g 0 + g 1 + g 2 + g 3))), lu_w W g, b, c) :=
  ev_aload_n (i := 0) (nx := 1) (r1 := 0) (r2 := 0) (r3 := 0) rfl (x := 236) rfl <|
  ev_getfield (nx := 4) (r1 := 11) (r2 := 30) (r3 := 0) rfl rfl (by decide) (lu_gf H H.2.2.2.1) <|
  ev_iconst (n := 0) (nx := 5) (r1 := 0) (r2 := 0) (r3 := 0) rfl (v := 0) (by decide) <|
  ev_iaload (nx := 6) (r1 := 0) (r2 := 0) (r3 := 0) rfl (lu_at H (i := 0) (k := 0) rfl rfl rfl) <|
  ev_aload_n (i := 0) (nx := 7) (r1 := 0) (r2 := 0) (r3 := 0) rfl (x := 236) rfl <|
  ev_getfield (nx := 10) (r1 := 11) (r2 := 30) (r3 := 0) rfl rfl (by decide) (lu_gf H H.2.2.2.1) <|
  ev_iconst (n := 1) (nx := 11) (r1 := 0) (r2 := 0) (r3 := 0) rfl (v := 1) (by decide) <|
  ev_iaload (nx := 12) (r1 := 0) (r2 := 0) (r3 := 0) rfl (lu_at H (i := 1) (k := 1) rfl rfl rfl) <|
  ev_iadd (nx := 13) (r1 := 0) (r2 := 0) (r3 := 0) rfl rfl <|
  ev_aload_n (i := 0) (nx := 14) (r1 := 0) (r2 := 0) (r3 := 0) rfl (x := 236) rfl <|
  ev_getfield (nx := 17) (r1 := 11) (r2 := 30) (r3 := 0) rfl rfl (by decide) (lu_gf H H.2.2.2.1) <|
  ev_iconst (n := 2) (nx := 18) (r1 := 0) (r2 := 0) (r3 := 0) rfl (v := 2) (by decide) <|
  ev_iaload (nx := 19) (r1 := 0) (r2 := 0) (r3 := 0) rfl (lu_at H (i := 2) (k := 2) rfl rfl rfl) <|
  ev_iadd (nx := 20) (r1 := 0) (r2 := 0) (r3 := 0) rfl rfl <|
  ev_aload_n (i := 0) (nx := 21) (r1 := 0) (r2 := 0) (r3 := 0) rfl (x := 236) rfl <|
  ev_getfield (nx := 24) (r1 := 11) (r2 := 30) (r3 := 0) rfl rfl (by decide) (lu_gf H H.2.2.2.1) <|
  ev_iconst (n := 3) (nx := 25) (r1 := 0) (r2 := 0) (r3 := 0) rfl (v := 3) (by decide) <|
  ev_iaload (nx := 26) (r1 := 0) (r2 := 0) (r3 := 0) rfl (lu_at H (i := 3) (k := 3) rfl rfl rfl) <|
  ev_iadd (nx := 27) (r1 := 0) (r2 := 0) (r3 := 0) rfl rfl <|
  ev_ireturn (ty := .int) (nx := 28) (r1 := 0) (r2 := 0) (r3 := 0) rfl rfl rfl
def lu_lo (p : Int32) : List (Nat × Value) := [(2, .int p), (5, .int 0), (4, .int 0), (3, .int 0), (1, .int 0), (0, .ref 236)]
theorem lu_it (H : lu_F W fs nf) (p : Int32) (h0 : mm_cmp .lt p 0 = false) (hs : mm_cmp .ne (lu_t0 p + lu_t1 p + lu_t2 p + lu_t3 p) 0 = true) (hw : Ev xa d 302 (0, [(0, .ref 236)], [], lu_w W (lu_g g p), b, c) (.inl (some (.int 0)), lu_w W (lu_g g p), b, c)) (K : Ev xa (d + 1) 299 (14, lu_lo (p + Int32.ofInt (-1)), [], lu_w W (lu_g g p), b, c) o) : Ev xa (d + 1) 299 (14, lu_lo p, [], lu_w W g, b, c) o :=
  ev_iload_n (i := 2) (nx := 15) (r1 := 0) (r2 := 0) (r3 := 0) rfl (x := p) rfl <|
  ev_if_f (cd := .lt) (nx := 18) (r1 := 104) (r2 := 0) (r3 := 0) rfl h0 <|
  ev_aload_n (i := 0) (nx := 19) (r1 := 0) (r2 := 0) (r3 := 0) rfl (x := 236) rfl <|
  ev_iload_n (i := 2) (nx := 20) (r1 := 0) (r2 := 0) (r3 := 0) rfl (x := p) rfl <|
  ev_V (nx := 23) (r1 := 301) (r2 := 1) (r3 := 11) rfl (k0 := 236) (as := [.ref 236, .int p]) (rest := []) (v := none) rfl rfl (of_decide_eq_true rfl) rfl rfl (lu_cl H) (of_decide_eq_true rfl) (of_decide_eq_true rfl) (lu_unpacks H p) <|
  ev_aload_n (i := 0) (nx := 24) (r1 := 0) (r2 := 0) (r3 := 0) rfl (x := 236) rfl <|
  ev_V (nx := 27) (r1 := 302) (r2 := 0) (r3 := 11) rfl (k0 := 236) (as := [.ref 236]) (rest := []) (v := some (.int 0)) rfl rfl (of_decide_eq_true rfl) rfl rfl (lu_cl H) (of_decide_eq_true rfl) (of_decide_eq_true rfl) (hw) <|
  ev_istore_n (i := 3) (nx := 28) (r1 := 0) (r2 := 0) (r3 := 0) rfl (lo2 := [(3, .int 0), (2, .int p), (5, .int 0), (4, .int 0), (1, .int 0), (0, .ref 236)]) rfl <|
  ev_aload_n (i := 0) (nx := 29) (r1 := 0) (r2 := 0) (r3 := 0) rfl (x := 236) rfl <|
  ev_V (nx := 32) (r1 := 303) (r2 := 0) (r3 := 11) rfl (k0 := 236) (as := [.ref 236]) (rest := []) (v := some (.int (lu_t0 p + lu_t1 p + lu_t2 p + lu_t3 p))) rfl rfl (of_decide_eq_true rfl) rfl rfl (lu_cl H) (of_decide_eq_true rfl) (of_decide_eq_true rfl) (lu_ta (g := lu_g g p) H) <|
  ev_iload_n (i := 1) (nx := 33) (r1 := 0) (r2 := 0) (r3 := 0) rfl (x := 0) rfl <|
  ev_icmp_t (cd := .ne) (nx := 36) (r1 := 40) (r2 := 0) (r3 := 0) rfl hs <|
  ev_iconst (n := 0) (nx := 41) (r1 := 0) (r2 := 0) (r3 := 0) rfl (v := 0) (by decide) <|
  ev_istore (i := 4) (nx := 43) (r1 := 0) (r2 := 0) (r3 := 0) rfl (lo2 := [(4, .int 0), (3, .int 0), (2, .int p), (5, .int 0), (1, .int 0), (0, .ref 236)]) rfl <|
  ev_iconst (n := 0) (nx := 44) (r1 := 0) (r2 := 0) (r3 := 0) rfl (v := 0) (by decide) <|
  ev_istore (i := 5) (nx := 46) (r1 := 0) (r2 := 0) (r3 := 0) rfl (lo2 := [(5, .int 0), (4, .int 0), (3, .int 0), (2, .int p), (1, .int 0), (0, .ref 236)]) rfl <|
  ev_iload (i := 5) (nx := 48) (r1 := 0) (r2 := 0) (r3 := 0) rfl (x := 0) rfl <|
  ev_bipush (n := 60) (nx := 50) (r1 := 0) (r2 := 0) (r3 := 0) rfl (v := 60) (by decide) <|
  ev_icmp_f (cd := .ge) (nx := 53) (r1 := 98) (r2 := 0) (r3 := 0) rfl (by decide) <|
  ev_iload_n (i := 3) (nx := 54) (r1 := 0) (r2 := 0) (r3 := 0) rfl (x := 0) rfl <|
  ev_if_t (cd := .eq) (nx := 57) (r1 := 98) (r2 := 0) (r3 := 0) rfl (by decide) <|
  ev_iinc (i := 2) (n := -1) (nx := 101) (r1 := 0) (r2 := 0) (r3 := 0) rfl (x := p) (v := p + Int32.ofInt (-1)) (lo2 := lu_lo (p + Int32.ofInt (-1))) rfl rfl rfl <|
  ev_goto (nx := 104) (r1 := 14) (r2 := 0) (r3 := 0) rfl K
def lu_ok (n : Nat) : Bool :=
  !mm_cmp .lt (Int32.ofNat n) 0 && mm_cmp .ne (lu_t0 (Int32.ofNat n) + lu_t1 (Int32.ofNat n) + lu_t2 (Int32.ofNat n) + lu_t3 (Int32.ofNat n)) 0 && decide (Int32.ofNat n + Int32.ofInt (-1) = Int32.ofNat (n - 1)) &&
  (!mm_cmp .le (lu_t0 (Int32.ofNat n)) 0 || !mm_cmp .le (lu_t1 (Int32.ofNat n)) 0 || !mm_cmp .le (lu_t2 (Int32.ofNat n)) 0 || !mm_cmp .le (lu_t3 (Int32.ofNat n)) 0)
theorem lu_oka : (List.range 2400).all (fun n => n == 0 || lu_ok n) = true := by decide +kernel
theorem lu_okn {n : Nat} (h : n < 2400) (h1 : n ≠ 0) : lu_ok n = true := by
  have h2 := List.all_eq_true.mp lu_oka n (List.mem_range.mpr h)
  simp only [Bool.or_eq_true, beq_iff_eq] at h2
  exact h2.resolve_left h1
theorem lu_wh (H : lu_F W fs nf) {n : Nat} (hn : lu_ok n = true) : Ev xa d 302 (0, [(0, .ref 236)], [], lu_w W (lu_g g (Int32.ofNat n)), b, c) (.inl (some (.int 0)), lu_w W (lu_g g (Int32.ofNat n)), b, c) := by
  unfold lu_ok at hn
  simp only [Bool.and_eq_true, Bool.or_eq_true, Bool.not_eq_true'] at hn
  obtain ⟨-, hn⟩ := hn
  cases q0 : mm_cmp .le (lu_t0 (Int32.ofNat n)) 0 with
  | false => exact lu_wi0 H q0
  | true =>
    cases q1 : mm_cmp .le (lu_t1 (Int32.ofNat n)) 0 with
    | false => exact lu_wi1 H q0 q1
    | true =>
      cases q2 : mm_cmp .le (lu_t2 (Int32.ofNat n)) 0 with
      | false => exact lu_wi2 H q0 q1 q2
      | true =>
        cases q3 : mm_cmp .le (lu_t3 (Int32.ofNat n)) 0 with
        | false => exact lu_wi3 H q0 q1 q2 q3
        | true =>
          rw [q0, q1, q2, q3] at hn
          rcases hn with ((hn | hn) | hn) | hn <;> cases hn
theorem lu_loop (H : lu_F W fs nf) : ∀ (n : Nat), n < 2400 → ∀ g : Nat → Int32, ∃ g' : Nat → Int32, ∀ o, Ev xa (d + 1) 299 (14, lu_lo 0, [], lu_w W g', b, c) o → Ev xa (d + 1) 299 (14, lu_lo (Int32.ofNat n), [], lu_w W g, b, c) o
  | 0, _, g => ⟨g, fun _ h => h⟩
  | n + 1, hn, g => by
    have hok := lu_okn hn (Nat.succ_ne_zero n)
    obtain ⟨g', hg⟩ := lu_loop H n (by omega) (lu_g g (Int32.ofNat (n + 1)))
    refine ⟨g', fun o ho => ?_⟩
    have hw := lu_wh (xa := xa) (d := d) (b := b) (c := c) (g := g) H hok
    unfold lu_ok at hok
    simp only [Bool.and_eq_true, Bool.not_eq_true', decide_eq_true_eq] at hok
    obtain ⟨⟨⟨h0, hs⟩, he⟩, -⟩ := hok
    refine lu_it H _ h0 hs hw ?_
    rw [he]
    exact hg o ho
end LU
