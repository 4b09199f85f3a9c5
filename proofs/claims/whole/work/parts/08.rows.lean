section WROWS
variable {G : GT} {M : MT} {pc : Nat} {lv : List (Nat × Value)} {rest : List Value} {σ : Hp} {Q : Option Value → Hp → Prop}
theorem wr_iconst {n : Int} {v : Int32} (hdg : decode M.2.1 pc = .ok (.iconst n, 1)) (hv : Int32.ofInt n = v)     (k : WP G M (pc + 1) lv (.int v :: rest) σ Q) : WP G M pc lv (rest) σ Q := fun p l e s m a b me c H L ls C hP hS hl => lv_iconst C.1 C.2.1 hdg hv (k _ _ _ _ _ _ _ _ _ _ _ _ C hP hS hl)
theorem wr_bipush {n : Int} {v : Int32} (hdg : decode M.2.1 pc = .ok (.bipush n, 2)) (hv : (Int8.ofInt n).toInt32 = v)     (k : WP G M (pc + 2) lv (.int v :: rest) σ Q) : WP G M pc lv (rest) σ Q := fun p l e s m a b me c H L ls C hP hS hl => lv_bipush C.1 C.2.1 hdg hv (k _ _ _ _ _ _ _ _ _ _ _ _ C hP hS hl)
theorem wr_sipush {n : Int} {v : Int32} (hdg : decode M.2.1 pc = .ok (.sipush n, 3)) (hv : (Int16.ofInt n).toInt32 = v)     (k : WP G M (pc + 3) lv (.int v :: rest) σ Q) : WP G M pc lv (rest) σ Q := fun p l e s m a b me c H L ls C hP hS hl => lv_sipush C.1 C.2.1 hdg hv (k _ _ _ _ _ _ _ _ _ _ _ _ C hP hS hl)
theorem wr_lconst {n : Fin 2} {v : Int64} (hdg : decode M.2.1 pc = .ok (.lconst n, 1)) (hv : Int64.ofNat (n : Nat) = v)     (k : WP G M (pc + 1) lv (.long v :: rest) σ Q) : WP G M pc lv (rest) σ Q := fun p l e s m a b me c H L ls C hP hS hl => lv_lconst C.1 C.2.1 hdg hv (k _ _ _ _ _ _ _ _ _ _ _ _ C hP hS hl)
theorem wr_iadd {x y : Int32} (hdg : decode M.2.1 pc = .ok (.iadd, 1))      (k : WP G M (pc + 1) lv (.int (x + y) :: rest) σ Q) : WP G M pc lv (.int y :: .int x :: rest) σ Q := fun p l e s m a b me c H L ls C hP hS hl => lv_iadd C.1 C.2.1 hdg (k _ _ _ _ _ _ _ _ _ _ _ _ C hP hS hl)
theorem wr_isub {x y : Int32} (hdg : decode M.2.1 pc = .ok (.isub, 1))      (k : WP G M (pc + 1) lv (.int (x - y) :: rest) σ Q) : WP G M pc lv (.int y :: .int x :: rest) σ Q := fun p l e s m a b me c H L ls C hP hS hl => lv_isub C.1 C.2.1 hdg (k _ _ _ _ _ _ _ _ _ _ _ _ C hP hS hl)
theorem wr_imul {x y : Int32} (hdg : decode M.2.1 pc = .ok (.imul, 1))      (k : WP G M (pc + 1) lv (.int (x * y) :: rest) σ Q) : WP G M pc lv (.int y :: .int x :: rest) σ Q := fun p l e s m a b me c H L ls C hP hS hl => lv_imul C.1 C.2.1 hdg (k _ _ _ _ _ _ _ _ _ _ _ _ C hP hS hl)
theorem wr_iand {x y : Int32} (hdg : decode M.2.1 pc = .ok (.iand, 1))      (k : WP G M (pc + 1) lv (.int (x &&& y) :: rest) σ Q) : WP G M pc lv (.int y :: .int x :: rest) σ Q := fun p l e s m a b me c H L ls C hP hS hl => lv_iand C.1 C.2.1 hdg (k _ _ _ _ _ _ _ _ _ _ _ _ C hP hS hl)
theorem wr_ior {x y : Int32} (hdg : decode M.2.1 pc = .ok (.ior, 1))      (k : WP G M (pc + 1) lv (.int (x ||| y) :: rest) σ Q) : WP G M pc lv (.int y :: .int x :: rest) σ Q := fun p l e s m a b me c H L ls C hP hS hl => lv_ior C.1 C.2.1 hdg (k _ _ _ _ _ _ _ _ _ _ _ _ C hP hS hl)
theorem wr_ixor {x y : Int32} (hdg : decode M.2.1 pc = .ok (.ixor, 1))      (k : WP G M (pc + 1) lv (.int (x ^^^ y) :: rest) σ Q) : WP G M pc lv (.int y :: .int x :: rest) σ Q := fun p l e s m a b me c H L ls C hP hS hl => lv_ixor C.1 C.2.1 hdg (k _ _ _ _ _ _ _ _ _ _ _ _ C hP hS hl)
theorem wr_idiv {x y : Int32} (hdg : decode M.2.1 pc = .ok (.idiv, 1)) (hne : ¬ y = 0)     (k : WP G M (pc + 1) lv (.int (x / y) :: rest) σ Q) : WP G M pc lv (.int y :: .int x :: rest) σ Q := fun p l e s m a b me c H L ls C hP hS hl => lv_idiv C.1 C.2.1 hdg hne (k _ _ _ _ _ _ _ _ _ _ _ _ C hP hS hl)
theorem wr_irem {x y : Int32} (hdg : decode M.2.1 pc = .ok (.irem, 1)) (hne : ¬ y = 0)     (k : WP G M (pc + 1) lv (.int (x - x / y * y) :: rest) σ Q) : WP G M pc lv (.int y :: .int x :: rest) σ Q := fun p l e s m a b me c H L ls C hP hS hl => lv_irem C.1 C.2.1 hdg hne (k _ _ _ _ _ _ _ _ _ _ _ _ C hP hS hl)
theorem wr_ineg {x : Int32} (hdg : decode M.2.1 pc = .ok (.ineg, 1))      (k : WP G M (pc + 1) lv (.int (-x) :: rest) σ Q) : WP G M pc lv (.int x :: rest) σ Q := fun p l e s m a b me c H L ls C hP hS hl => lv_ineg C.1 C.2.1 hdg (k _ _ _ _ _ _ _ _ _ _ _ _ C hP hS hl)
theorem wr_ladd {x y : Int64} (hdg : decode M.2.1 pc = .ok (.ladd, 1))      (k : WP G M (pc + 1) lv (.long (x + y) :: rest) σ Q) : WP G M pc lv (.long y :: .long x :: rest) σ Q := fun p l e s m a b me c H L ls C hP hS hl => lv_ladd C.1 C.2.1 hdg (k _ _ _ _ _ _ _ _ _ _ _ _ C hP hS hl)
theorem wr_lsub {x y : Int64} (hdg : decode M.2.1 pc = .ok (.lsub, 1))      (k : WP G M (pc + 1) lv (.long (x - y) :: rest) σ Q) : WP G M pc lv (.long y :: .long x :: rest) σ Q := fun p l e s m a b me c H L ls C hP hS hl => lv_lsub C.1 C.2.1 hdg (k _ _ _ _ _ _ _ _ _ _ _ _ C hP hS hl)
theorem wr_lmul {x y : Int64} (hdg : decode M.2.1 pc = .ok (.lmul, 1))      (k : WP G M (pc + 1) lv (.long (x * y) :: rest) σ Q) : WP G M pc lv (.long y :: .long x :: rest) σ Q := fun p l e s m a b me c H L ls C hP hS hl => lv_lmul C.1 C.2.1 hdg (k _ _ _ _ _ _ _ _ _ _ _ _ C hP hS hl)
theorem wr_land {x y : Int64} (hdg : decode M.2.1 pc = .ok (.land, 1))      (k : WP G M (pc + 1) lv (.long (x &&& y) :: rest) σ Q) : WP G M pc lv (.long y :: .long x :: rest) σ Q := fun p l e s m a b me c H L ls C hP hS hl => lv_land C.1 C.2.1 hdg (k _ _ _ _ _ _ _ _ _ _ _ _ C hP hS hl)
theorem wr_ldiv {x y : Int64} (hdg : decode M.2.1 pc = .ok (.ldiv, 1)) (hne : ¬ y = 0)     (k : WP G M (pc + 1) lv (.long (x / y) :: rest) σ Q) : WP G M pc lv (.long y :: .long x :: rest) σ Q := fun p l e s m a b me c H L ls C hP hS hl => lv_ldiv C.1 C.2.1 hdg hne (k _ _ _ _ _ _ _ _ _ _ _ _ C hP hS hl)
theorem wr_lrem {x y : Int64} (hdg : decode M.2.1 pc = .ok (.lrem, 1)) (hne : ¬ y = 0)     (k : WP G M (pc + 1) lv (.long (x - x / y * y) :: rest) σ Q) : WP G M pc lv (.long y :: .long x :: rest) σ Q := fun p l e s m a b me c H L ls C hP hS hl => lv_lrem C.1 C.2.1 hdg hne (k _ _ _ _ _ _ _ _ _ _ _ _ C hP hS hl)
theorem wr_ishl {x y : Int32} (hdg : decode M.2.1 pc = .ok (.ishl, 1))      (k : WP G M (pc + 1) lv (.int (x <<< (y &&& 31)) :: rest) σ Q) : WP G M pc lv (.int y :: .int x :: rest) σ Q := fun p l e s m a b me c H L ls C hP hS hl => lv_ishl C.1 C.2.1 hdg (k _ _ _ _ _ _ _ _ _ _ _ _ C hP hS hl)
theorem wr_ishr {x y : Int32} (hdg : decode M.2.1 pc = .ok (.ishr, 1))      (k : WP G M (pc + 1) lv (.int (x >>> (y &&& 31)) :: rest) σ Q) : WP G M pc lv (.int y :: .int x :: rest) σ Q := fun p l e s m a b me c H L ls C hP hS hl => lv_ishr C.1 C.2.1 hdg (k _ _ _ _ _ _ _ _ _ _ _ _ C hP hS hl)
theorem wr_i2l {x : Int32} {v : Int64} (hdg : decode M.2.1 pc = .ok (.i2l, 1)) (hv : x.toInt64 = v)     (k : WP G M (pc + 1) lv (.long v :: rest) σ Q) : WP G M pc lv (.int x :: rest) σ Q := fun p l e s m a b me c H L ls C hP hS hl => lv_i2l C.1 C.2.1 hdg hv (k _ _ _ _ _ _ _ _ _ _ _ _ C hP hS hl)
theorem wr_l2i {x : Int64} {v : Int32} (hdg : decode M.2.1 pc = .ok (.l2i, 1)) (hv : x.toInt32 = v)     (k : WP G M (pc + 1) lv (.int v :: rest) σ Q) : WP G M pc lv (.long x :: rest) σ Q := fun p l e s m a b me c H L ls C hP hS hl => lv_l2i C.1 C.2.1 hdg hv (k _ _ _ _ _ _ _ _ _ _ _ _ C hP hS hl)
theorem wr_i2b {x : Int32} {v : Int32} (hdg : decode M.2.1 pc = .ok (.i2b, 1)) (hv : x.toInt8.toInt32 = v)     (k : WP G M (pc + 1) lv (.int v :: rest) σ Q) : WP G M pc lv (.int x :: rest) σ Q := fun p l e s m a b me c H L ls C hP hS hl => lv_i2b C.1 C.2.1 hdg hv (k _ _ _ _ _ _ _ _ _ _ _ _ C hP hS hl)
theorem wr_i2s {x : Int32} {v : Int32} (hdg : decode M.2.1 pc = .ok (.i2s, 1)) (hv : x.toInt16.toInt32 = v)     (k : WP G M (pc + 1) lv (.int v :: rest) σ Q) : WP G M pc lv (.int x :: rest) σ Q := fun p l e s m a b me c H L ls C hP hS hl => lv_i2s C.1 C.2.1 hdg hv (k _ _ _ _ _ _ _ _ _ _ _ _ C hP hS hl)
theorem wr_i2c {x : Int32} {v : Int32} (hdg : decode M.2.1 pc = .ok (.i2c, 1)) (hv : (x.toUInt32 % 65536).toInt32 = v)     (k : WP G M (pc + 1) lv (.int v :: rest) σ Q) : WP G M pc lv (.int x :: rest) σ Q := fun p l e s m a b me c H L ls C hP hS hl => lv_i2c C.1 C.2.1 hdg hv (k _ _ _ _ _ _ _ _ _ _ _ _ C hP hS hl)
theorem wr_iushr {x y v : Int32} (hdg : decode M.2.1 pc = .ok (.iushr, 1)) (hv : (x.toUInt32 >>> (y.toUInt32 &&& Int32.toUInt32 31)).toInt32 = v)     (k : WP G M (pc + 1) lv (.int v :: rest) σ Q) : WP G M pc lv (.int y :: .int x :: rest) σ Q := fun p l e s m a b me c H L ls C hP hS hl => lv_iushr C.1 C.2.1 hdg hv (k _ _ _ _ _ _ _ _ _ _ _ _ C hP hS hl)
theorem wr_lshl {x v : Int64} {y : Int32} (hdg : decode M.2.1 pc = .ok (.lshl, 1)) (hv : x <<< (y.toInt64 &&& 63) = v)     (k : WP G M (pc + 1) lv (.long v :: rest) σ Q) : WP G M pc lv (.int y :: .long x :: rest) σ Q := fun p l e s m a b me c H L ls C hP hS hl => lv_lshl C.1 C.2.1 hdg hv (k _ _ _ _ _ _ _ _ _ _ _ _ C hP hS hl)
theorem wr_lshr {x v : Int64} {y : Int32} (hdg : decode M.2.1 pc = .ok (.lshr, 1)) (hv : x >>> (y.toInt64 &&& 63) = v)     (k : WP G M (pc + 1) lv (.long v :: rest) σ Q) : WP G M pc lv (.int y :: .long x :: rest) σ Q := fun p l e s m a b me c H L ls C hP hS hl => lv_lshr C.1 C.2.1 hdg hv (k _ _ _ _ _ _ _ _ _ _ _ _ C hP hS hl)
theorem wr_dup {va : Value} (hdg : decode M.2.1 pc = .ok (.dup, 1)) (hva : va.category = 1)     (k : WP G M (pc + 1) lv (va :: va :: rest) σ Q) : WP G M pc lv (va :: rest) σ Q := fun p l e s m a b me c H L ls C hP hS hl => lv_dup C.1 C.2.1 hdg hva (k _ _ _ _ _ _ _ _ _ _ _ _ C hP hS hl)
theorem wr_pop {va : Value} (hdg : decode M.2.1 pc = .ok (.pop, 1)) (hva : va.category = 1)     (k : WP G M (pc + 1) lv (rest) σ Q) : WP G M pc lv (va :: rest) σ Q := fun p l e s m a b me c H L ls C hP hS hl => lv_pop C.1 C.2.1 hdg hva (k _ _ _ _ _ _ _ _ _ _ _ _ C hP hS hl)
theorem wr_dup2_11 {va vb : Value} (hdg : decode M.2.1 pc = .ok (.dup2, 1)) (hva : va.category = 1) (hvb : vb.category = 1)     (k : WP G M (pc + 1) lv (va :: vb :: va :: vb :: rest) σ Q) : WP G M pc lv (va :: vb :: rest) σ Q := fun p l e s m a b me c H L ls C hP hS hl => lv_dup2_11 C.1 C.2.1 hdg hva hvb (k _ _ _ _ _ _ _ _ _ _ _ _ C hP hS hl)
theorem wr_goto {off : Int} {tgt : Nat} (hdg : decode M.2.1 pc = .ok (.goto off, 3)) (ht : (pc : Int) + off = (tgt : Int)) (k : WP G M tgt lv rest σ Q) : WP G M pc lv rest σ Q := fun p l e s m a b me c H L ls C hP hS hl => lv_goto C.1 C.2.1 hdg ht (k _ _ _ _ _ _ _ _ _ _ _ _ C hP hS hl)
theorem wr_if_eq {x : Int32} {off : Int} {tgt : Nat} (hdg : decode M.2.1 pc = .ok (.ifCond .eq off, 3)) (ht : (pc : Int) + off = (tgt : Int))     (kt : x = 0 → WP G M tgt lv rest σ Q) (kf : ¬ x = 0 → WP G M (pc + 3) lv rest σ Q) : WP G M pc lv (.int x :: rest) σ Q := fun p l e s m a b me c H L ls C hP hS hl => lv_if_eq C.1 C.2.1 hdg ht (fun q => kt q _ _ _ _ _ _ _ _ _ _ _ _ C hP hS hl) (fun q => kf q _ _ _ _ _ _ _ _ _ _ _ _ C hP hS hl)
theorem wr_if_ne {x : Int32} {off : Int} {tgt : Nat} (hdg : decode M.2.1 pc = .ok (.ifCond .ne off, 3)) (ht : (pc : Int) + off = (tgt : Int))     (kt : ¬ x = 0 → WP G M tgt lv rest σ Q) (kf : x = 0 → WP G M (pc + 3) lv rest σ Q) : WP G M pc lv (.int x :: rest) σ Q := fun p l e s m a b me c H L ls C hP hS hl => lv_if_ne C.1 C.2.1 hdg ht (fun q => kt q _ _ _ _ _ _ _ _ _ _ _ _ C hP hS hl) (fun q => kf q _ _ _ _ _ _ _ _ _ _ _ _ C hP hS hl)
theorem wr_if_lt {x : Int32} {off : Int} {tgt : Nat} (hdg : decode M.2.1 pc = .ok (.ifCond .lt off, 3)) (ht : (pc : Int) + off = (tgt : Int))     (kt : x < 0 → WP G M tgt lv rest σ Q) (kf : ¬ x < 0 → WP G M (pc + 3) lv rest σ Q) : WP G M pc lv (.int x :: rest) σ Q := fun p l e s m a b me c H L ls C hP hS hl => lv_if_lt C.1 C.2.1 hdg ht (fun q => kt q _ _ _ _ _ _ _ _ _ _ _ _ C hP hS hl) (fun q => kf q _ _ _ _ _ _ _ _ _ _ _ _ C hP hS hl)
theorem wr_if_ge {x : Int32} {off : Int} {tgt : Nat} (hdg : decode M.2.1 pc = .ok (.ifCond .ge off, 3)) (ht : (pc : Int) + off = (tgt : Int))     (kt : 0 ≤ x → WP G M tgt lv rest σ Q) (kf : ¬ 0 ≤ x → WP G M (pc + 3) lv rest σ Q) : WP G M pc lv (.int x :: rest) σ Q := fun p l e s m a b me c H L ls C hP hS hl => lv_if_ge C.1 C.2.1 hdg ht (fun q => kt q _ _ _ _ _ _ _ _ _ _ _ _ C hP hS hl) (fun q => kf q _ _ _ _ _ _ _ _ _ _ _ _ C hP hS hl)
theorem wr_if_gt {x : Int32} {off : Int} {tgt : Nat} (hdg : decode M.2.1 pc = .ok (.ifCond .gt off, 3)) (ht : (pc : Int) + off = (tgt : Int))     (kt : 0 < x → WP G M tgt lv rest σ Q) (kf : ¬ 0 < x → WP G M (pc + 3) lv rest σ Q) : WP G M pc lv (.int x :: rest) σ Q := fun p l e s m a b me c H L ls C hP hS hl => lv_if_gt C.1 C.2.1 hdg ht (fun q => kt q _ _ _ _ _ _ _ _ _ _ _ _ C hP hS hl) (fun q => kf q _ _ _ _ _ _ _ _ _ _ _ _ C hP hS hl)
theorem wr_if_le {x : Int32} {off : Int} {tgt : Nat} (hdg : decode M.2.1 pc = .ok (.ifCond .le off, 3)) (ht : (pc : Int) + off = (tgt : Int))     (kt : x ≤ 0 → WP G M tgt lv rest σ Q) (kf : ¬ x ≤ 0 → WP G M (pc + 3) lv rest σ Q) : WP G M pc lv (.int x :: rest) σ Q := fun p l e s m a b me c H L ls C hP hS hl => lv_if_le C.1 C.2.1 hdg ht (fun q => kt q _ _ _ _ _ _ _ _ _ _ _ _ C hP hS hl) (fun q => kf q _ _ _ _ _ _ _ _ _ _ _ _ C hP hS hl)
theorem wr_icmp_eq {x y : Int32} {off : Int} {tgt : Nat} (hdg : decode M.2.1 pc = .ok (.if_icmp .eq off, 3)) (ht : (pc : Int) + off = (tgt : Int))     (kt : x = y → WP G M tgt lv rest σ Q) (kf : ¬ x = y → WP G M (pc + 3) lv rest σ Q) : WP G M pc lv (.int y :: .int x :: rest) σ Q := fun p l e s m a b me c H L ls C hP hS hl => lv_icmp_eq C.1 C.2.1 hdg ht (fun q => kt q _ _ _ _ _ _ _ _ _ _ _ _ C hP hS hl) (fun q => kf q _ _ _ _ _ _ _ _ _ _ _ _ C hP hS hl)
theorem wr_icmp_ne {x y : Int32} {off : Int} {tgt : Nat} (hdg : decode M.2.1 pc = .ok (.if_icmp .ne off, 3)) (ht : (pc : Int) + off = (tgt : Int))     (kt : ¬ x = y → WP G M tgt lv rest σ Q) (kf : x = y → WP G M (pc + 3) lv rest σ Q) : WP G M pc lv (.int y :: .int x :: rest) σ Q := fun p l e s m a b me c H L ls C hP hS hl => lv_icmp_ne C.1 C.2.1 hdg ht (fun q => kt q _ _ _ _ _ _ _ _ _ _ _ _ C hP hS hl) (fun q => kf q _ _ _ _ _ _ _ _ _ _ _ _ C hP hS hl)
theorem wr_icmp_lt {x y : Int32} {off : Int} {tgt : Nat} (hdg : decode M.2.1 pc = .ok (.if_icmp .lt off, 3)) (ht : (pc : Int) + off = (tgt : Int))     (kt : x < y → WP G M tgt lv rest σ Q) (kf : ¬ x < y → WP G M (pc + 3) lv rest σ Q) : WP G M pc lv (.int y :: .int x :: rest) σ Q := fun p l e s m a b me c H L ls C hP hS hl => lv_icmp_lt C.1 C.2.1 hdg ht (fun q => kt q _ _ _ _ _ _ _ _ _ _ _ _ C hP hS hl) (fun q => kf q _ _ _ _ _ _ _ _ _ _ _ _ C hP hS hl)
theorem wr_icmp_ge {x y : Int32} {off : Int} {tgt : Nat} (hdg : decode M.2.1 pc = .ok (.if_icmp .ge off, 3)) (ht : (pc : Int) + off = (tgt : Int))     (kt : y ≤ x → WP G M tgt lv rest σ Q) (kf : ¬ y ≤ x → WP G M (pc + 3) lv rest σ Q) : WP G M pc lv (.int y :: .int x :: rest) σ Q := fun p l e s m a b me c H L ls C hP hS hl => lv_icmp_ge C.1 C.2.1 hdg ht (fun q => kt q _ _ _ _ _ _ _ _ _ _ _ _ C hP hS hl) (fun q => kf q _ _ _ _ _ _ _ _ _ _ _ _ C hP hS hl)
theorem wr_icmp_gt {x y : Int32} {off : Int} {tgt : Nat} (hdg : decode M.2.1 pc = .ok (.if_icmp .gt off, 3)) (ht : (pc : Int) + off = (tgt : Int))     (kt : y < x → WP G M tgt lv rest σ Q) (kf : ¬ y < x → WP G M (pc + 3) lv rest σ Q) : WP G M pc lv (.int y :: .int x :: rest) σ Q := fun p l e s m a b me c H L ls C hP hS hl => lv_icmp_gt C.1 C.2.1 hdg ht (fun q => kt q _ _ _ _ _ _ _ _ _ _ _ _ C hP hS hl) (fun q => kf q _ _ _ _ _ _ _ _ _ _ _ _ C hP hS hl)
theorem wr_icmp_le {x y : Int32} {off : Int} {tgt : Nat} (hdg : decode M.2.1 pc = .ok (.if_icmp .le off, 3)) (ht : (pc : Int) + off = (tgt : Int))     (kt : x ≤ y → WP G M tgt lv rest σ Q) (kf : ¬ x ≤ y → WP G M (pc + 3) lv rest σ Q) : WP G M pc lv (.int y :: .int x :: rest) σ Q := fun p l e s m a b me c H L ls C hP hS hl => lv_icmp_le C.1 C.2.1 hdg ht (fun q => kt q _ _ _ _ _ _ _ _ _ _ _ _ C hP hS hl) (fun q => kf q _ _ _ _ _ _ _ _ _ _ _ _ C hP hS hl)
theorem wr_sub {lv' : List (Nat × Value)} (ks : List Nat) (hk : lv_pick lv ks = lv') (k : WP G M pc lv' rest σ Q) : WP G M pc lv rest σ Q := fun p l e s m a b me c H L ls C hP hS hl => k _ _ _ _ _ _ _ _ _ _ _ _ C hP hS (lv_sub hl ks hk)
theorem wr_iload_n {i : Fin 4} {x : Int32} (hdg : decode M.2.1 pc = .ok (.iload_n i, 1)) (j : Nat) (hj : lv[j]? = some (i.1, .int x)) (k : WP G M (pc + 1) lv (.int x :: rest) σ Q) : WP G M pc lv rest σ Q := fun p l e s m a b me c H L ls C hP hS hl => lv_iload_n C.1 C.2.1 hdg rfl (lv_at hl j hj) (k _ _ _ _ _ _ _ _ _ _ _ _ C hP hS hl)
theorem wr_iload {i : Nat} {x : Int32} (hdg : decode M.2.1 pc = .ok (.iload i, 2)) (j : Nat) (hj : lv[j]? = some (i, .int x)) (k : WP G M (pc + 2) lv (.int x :: rest) σ Q) : WP G M pc lv rest σ Q := fun p l e s m a b me c H L ls C hP hS hl => lv_iload C.1 C.2.1 hdg (lv_at hl j hj) (k _ _ _ _ _ _ _ _ _ _ _ _ C hP hS hl)
theorem wr_lload_n {i : Fin 4} {x : Int64} (hdg : decode M.2.1 pc = .ok (.lload_n i, 1)) (j : Nat) (hj : lv[j]? = some (i.1, .long x)) (k : WP G M (pc + 1) lv (.long x :: rest) σ Q) : WP G M pc lv rest σ Q := fun p l e s m a b me c H L ls C hP hS hl => lv_lload_n C.1 C.2.1 hdg rfl (lv_at hl j hj) (k _ _ _ _ _ _ _ _ _ _ _ _ C hP hS hl)
theorem wr_lload {i : Nat} {x : Int64} (hdg : decode M.2.1 pc = .ok (.lload i, 2)) (j : Nat) (hj : lv[j]? = some (i, .long x)) (k : WP G M (pc + 2) lv (.long x :: rest) σ Q) : WP G M pc lv rest σ Q := fun p l e s m a b me c H L ls C hP hS hl => lv_lload C.1 C.2.1 hdg (lv_at hl j hj) (k _ _ _ _ _ _ _ _ _ _ _ _ C hP hS hl)
theorem wr_aload_n {i : Fin 4} {x : Nat} (hdg : decode M.2.1 pc = .ok (.aload_n i, 1)) (j : Nat) (hj : lv[j]? = some (i.1, .ref x)) (k : WP G M (pc + 1) lv (.ref x :: rest) σ Q) : WP G M pc lv rest σ Q := fun p l e s m a b me c H L ls C hP hS hl => lv_aload_n C.1 C.2.1 hdg rfl (lv_at hl j hj) (k _ _ _ _ _ _ _ _ _ _ _ _ C hP hS hl)
theorem wr_aload {i : Nat} {x : Nat} (hdg : decode M.2.1 pc = .ok (.aload i, 2)) (j : Nat) (hj : lv[j]? = some (i, .ref x)) (k : WP G M (pc + 2) lv (.ref x :: rest) σ Q) : WP G M pc lv rest σ Q := fun p l e s m a b me c H L ls C hP hS hl => lv_aload C.1 C.2.1 hdg (lv_at hl j hj) (k _ _ _ _ _ _ _ _ _ _ _ _ C hP hS hl)
theorem wr_istore_n {i : Fin 4} {x : Int32} {lv' : List (Nat × Value)} (hdg : decode M.2.1 pc = .ok (.istore_n i, 1)) (hn : i.1 < M.2.2.1) (hv : (i.1, Value.int x) :: lv.filter (fun q => !(q.1 == i.1) && !(q.1 + 1 == i.1 && q.2.category == 2)) = lv') (k : WP G M (pc + 1) lv' rest σ Q) : WP G M pc lv (.int x :: rest) σ Q := fun p l e s m a b me c H L ls C hP hS hl => lv_istore_n C.1 C.2.1 hdg rfl hl hn hv (fun ls hl => k _ _ _ _ _ _ _ _ _ _ _ _ C hP hS hl)
theorem wr_istore {i : Nat} {x : Int32} {lv' : List (Nat × Value)} (hdg : decode M.2.1 pc = .ok (.istore i, 2)) (hn : i < M.2.2.1) (hv : (i, Value.int x) :: lv.filter (fun q => !(q.1 == i) && !(q.1 + 1 == i && q.2.category == 2)) = lv') (k : WP G M (pc + 2) lv' rest σ Q) : WP G M pc lv (.int x :: rest) σ Q := fun p l e s m a b me c H L ls C hP hS hl => lv_istore C.1 C.2.1 hdg hl hn hv (fun ls hl => k _ _ _ _ _ _ _ _ _ _ _ _ C hP hS hl)
theorem wr_lstore_n {i : Fin 4} {x : Int64} {lv' : List (Nat × Value)} (hdg : decode M.2.1 pc = .ok (.lstore_n i, 1)) (hn : i.1 + 1 < M.2.2.1) (hv : (i.1, Value.long x) :: lv.filter (fun q => !(q.1 == i.1) && (!(q.1 == i.1 + 1) && !(q.1 + 1 == i.1 && q.2.category == 2))) = lv') (k : WP G M (pc + 1) lv' rest σ Q) : WP G M pc lv (.long x :: rest) σ Q := fun p l e s m a b me c H L ls C hP hS hl => lv_lstore_n C.1 C.2.1 hdg rfl hl hn hv (fun ls hl => k _ _ _ _ _ _ _ _ _ _ _ _ C hP hS hl)
theorem wr_lstore {i : Nat} {x : Int64} {lv' : List (Nat × Value)} (hdg : decode M.2.1 pc = .ok (.lstore i, 2)) (hn : i + 1 < M.2.2.1) (hv : (i, Value.long x) :: lv.filter (fun q => !(q.1 == i) && (!(q.1 == i + 1) && !(q.1 + 1 == i && q.2.category == 2))) = lv') (k : WP G M (pc + 2) lv' rest σ Q) : WP G M pc lv (.long x :: rest) σ Q := fun p l e s m a b me c H L ls C hP hS hl => lv_lstore C.1 C.2.1 hdg hl hn hv (fun ls hl => k _ _ _ _ _ _ _ _ _ _ _ _ C hP hS hl)
theorem wr_astore_n {i : Fin 4} {x : Nat} {lv' : List (Nat × Value)} (hdg : decode M.2.1 pc = .ok (.astore_n i, 1)) (hn : i.1 < M.2.2.1) (hv : (i.1, Value.ref x) :: lv.filter (fun q => !(q.1 == i.1) && !(q.1 + 1 == i.1 && q.2.category == 2)) = lv') (k : WP G M (pc + 1) lv' rest σ Q) : WP G M pc lv (.ref x :: rest) σ Q := fun p l e s m a b me c H L ls C hP hS hl => lv_astore_n C.1 C.2.1 hdg rfl hl hn hv (fun ls hl => k _ _ _ _ _ _ _ _ _ _ _ _ C hP hS hl)
theorem wr_astore {i : Nat} {x : Nat} {lv' : List (Nat × Value)} (hdg : decode M.2.1 pc = .ok (.astore i, 2)) (hn : i < M.2.2.1) (hv : (i, Value.ref x) :: lv.filter (fun q => !(q.1 == i) && !(q.1 + 1 == i && q.2.category == 2)) = lv') (k : WP G M (pc + 2) lv' rest σ Q) : WP G M pc lv (.ref x :: rest) σ Q := fun p l e s m a b me c H L ls C hP hS hl => lv_astore C.1 C.2.1 hdg hl hn hv (fun ls hl => k _ _ _ _ _ _ _ _ _ _ _ _ C hP hS hl)
theorem wr_iinc {i : Nat} {n : Int} {x v : Int32} {lv' : List (Nat × Value)} (hdg : decode M.2.1 pc = .ok (.iinc i n, 3)) (j : Nat) (hj : lv[j]? = some (i, .int x)) (hx : x + Int32.ofInt n = v) (hn : i < M.2.2.1) (hv : (i, Value.int v) :: lv.filter (fun q => !(q.1 == i) && !(q.1 + 1 == i && q.2.category == 2)) = lv') (k : WP G M (pc + 3) lv' rest σ Q) : WP G M pc lv rest σ Q := fun p l e s m a b me c H L ls C hP hS hl => lv_iinc (v := v) C.1 C.2.1 hdg hl hj hx hn hv (fun ls hl => k _ _ _ _ _ _ _ _ _ _ _ _ C hP hS hl)
theorem wr_lcmp {x y : Int64} (hdg : decode M.2.1 pc = .ok (.lcmp, 1)) (k : WP G M (pc + 1) lv (.int (lg_cmp x y) :: rest) σ Q) : WP G M pc lv (.long y :: .long x :: rest) σ Q := fun p l e s m a b me c H L ls C hP hS hl => W.lcmp C.1 C.2.1 hdg (k _ _ _ _ _ _ _ _ _ _ _ _ C hP hS hl)
theorem wr_ldc {idx : Nat} {v : Int32} (hw : Cond.constant M.1.cls idx v ∈ tb) (hdg : decode M.2.1 pc = .ok (.ldc idx, 2)) (k : WP G M (pc + 2) lv (.int v :: rest) σ Q) : WP G M pc lv rest σ Q := fun p l e s m a b me c H L ls C hP hS hl => lv_ldc C.1 C.2.1 C.2.2.2.2.1 (C.2.2.2.2.2.2.2.1.use hw) hdg (k _ _ _ _ _ _ _ _ _ _ _ _ C hP hS hl)
theorem wr_ldcw {idx : Nat} {v : Int32} (hw : Cond.constant M.1.cls idx v ∈ tb) (hdg : decode M.2.1 pc = .ok (.ldc_w idx, 3)) (k : WP G M (pc + 3) lv (.int v :: rest) σ Q) : WP G M pc lv rest σ Q := fun p l e s m a b me c H L ls C hP hS hl => lv_ldcw C.1 C.2.1 C.2.2.2.2.1 (C.2.2.2.2.2.2.2.1.use hw) hdg (k _ _ _ _ _ _ _ _ _ _ _ _ C hP hS hl)
theorem wr_ldc2 {idx : Nat} {v : Int64} (hw : Cond.constantLong M.1.cls idx v ∈ tb) (hdg : decode M.2.1 pc = .ok (.ldc2_w idx, 3)) (k : WP G M (pc + 3) lv (.long v :: rest) σ Q) : WP G M pc lv rest σ Q := fun p l e s m a b me c H L ls C hP hS hl => lv_ldc2 C.1 C.2.1 C.2.2.2.2.1 (C.2.2.2.2.2.2.2.1.use hw) hdg (k _ _ _ _ _ _ _ _ _ _ _ _ C hP hS hl)
theorem wr_ldcS (i : Nat) (hi : i < 8) {idx : Nat} (hx : (skL.getD i (0, "")).1 = idx) (ho : M.1.cls = RX7) (hdg : decode M.2.1 pc = .ok (.ldc idx, 2)) (k : WP G M (pc + 2) lv (.ref (G.1 (210 + i)) :: rest) σ Q) : WP G M pc lv rest σ Q := fun p l e s m a b me c H L ls C hP hS hl => va_ldcS C.1 C.2.1 (by rw [← ho]; exact C.2.2.2.2.1) (C.2.2.2.2.2.2.2.2.2.2.2.2.1 i hi) (by rw [hx]; exact hdg) (k _ _ _ _ _ _ _ _ _ _ _ _ C hP hS hl)
theorem wr_getsD {idx : Nat} (ho : M.1.cls = RX8) (hw : Cond.fieldLink M.1.cls idx "TinDucks" "DIGEST_TICKS" "[I" ∈ tb) (hdg : decode M.2.1 pc = .ok (.getstatic idx, 3)) (k : WP G M (pc + 3) lv (.ref (G.1 200) :: rest) σ Q) : WP G M pc lv rest σ Q := fun p l e s m a b me c H L ls C hP hS hl => va_gets C.1 C.2.1 C.2.2.2.2.2.2.2.2.2.1 hS C.2.2.2.2.1 (C.2.2.2.2.2.2.2.1.use hw) (fun _ h => h) hdg (k _ _ _ _ _ _ _ _ _ _ _ _ C hP hS hl)
theorem wr_dlen (hdg : decode M.2.1 pc = .ok (.arraylength, 1)) (k : WP G M (pc + 1) lv (.int 4 :: rest) σ Q) : WP G M pc lv (.ref (G.1 200) :: rest) σ Q := fun p l e s m a b me c H L ls C hP hS hl => va_tlen C.1 C.2.1 C.2.2.2.2.2.2.2.2.2.2.1 hS rfl hdg (k _ _ _ _ _ _ _ _ _ _ _ _ C hP hS hl)
theorem wr_dld {i : Int32} (hin : vp_in i 4) (hdg : decode M.2.1 pc = .ok (.iaload, 1)) (k : WP G M (pc + 1) lv (.int (dtk i.toNatClampNeg) :: rest) σ Q) : WP G M pc lv (.int i :: .ref (G.1 200) :: rest) σ Q := fun p l e s m a b me c H L ls C hP hS hl => va_ti C.1 C.2.1 C.2.2.2.2.2.2.2.2.2.2.1 hS hin rfl hdg (k _ _ _ _ _ _ _ _ _ _ _ _ C hP hS hl)
theorem wr_tabIn {dflt lo hi : Int} {offs : Array Int} {len : Nat} {x : Int32} {off : Int} {tgt : Nat} (hdg : decode M.2.1 pc = .ok (.tableswitch dflt lo hi offs, len)) (h1 : ¬ x.toInt < lo) (h2 : ¬ hi < x.toInt) (ho : offs[(x.toInt - lo).toNat]? = some off) (ht : (pc : Int) + off = (tgt : Int)) (k : WP G M tgt lv rest σ Q) : WP G M pc lv (.int x :: rest) σ Q := fun p l e s m a b me c H L ls C hP hS hl => lv_tableIn C.1 C.2.1 hdg h1 h2 ho ht (k _ _ _ _ _ _ _ _ _ _ _ _ C hP hS hl)
theorem wr_tabOut {dflt lo hi : Int} {offs : Array Int} {len : Nat} {x : Int32} {tgt : Nat} (hdg : decode M.2.1 pc = .ok (.tableswitch dflt lo hi offs, len)) (h : x.toInt < lo ∨ hi < x.toInt) (ht : (pc : Int) + dflt = (tgt : Int)) (k : WP G M tgt lv rest σ Q) : WP G M pc lv (.int x :: rest) σ Q := fun p l e s m a b me c H L ls C hP hS hl => lv_tableOut C.1 C.2.1 hdg h ht (k _ _ _ _ _ _ _ _ _ _ _ _ C hP hS hl)
theorem wr_look {dflt : Int} {ps : Array (Int × Int)} {len : Nat} {x : Int32} {off : Int} {tgt : Nat} (hdg : decode M.2.1 pc = .ok (.lookupswitch dflt ps, len)) (hp : (ps.toList.zip (ps.toList.drop 1)).all (fun (a, next) => a.1 < next.1) = true) (ho : Op.lookupswitch.offset ps.toList dflt x.toInt = off) (ht : (pc : Int) + off = (tgt : Int)) (k : WP G M tgt lv rest σ Q) : WP G M pc lv (.int x :: rest) σ Q := fun p l e s m a b me c H L ls C hP hS hl => lv_lookup C.1 C.2.1 hdg hp ho ht (k _ _ _ _ _ _ _ _ _ _ _ _ C hP hS hl)
theorem fl_N {own : String} {idx ci j : Nat} {fin : Bool} {tj : FieldType} {o : Nat} (hf : FL own idx ci j fin tj) (hk : kd o = ci) : o < 93 ∧ ci < 10 ∧ j < ln o := by
  obtain ⟨C, T, N, ty, ⟨h1, -⟩, h2, -⟩ := hf
  have hc : ci < 10 := (List.getElem?_eq_some_iff.mp h1).1
  have ho : o < 93 := kd_lt (by omega)
  have h3 := shp_ok o ho (by omega)
  rw [hk, h1] at h3
  have h4 : N = ln o := Option.some.inj h3
  exact ⟨ho, hc, by omega⟩
theorem wr_get {idx ci j o : Nat} {fin : Bool} {tj : FieldType} {v : Value} (hf : FL M.1.cls idx ci j fin tj) (hk : kd o = ci) (hv : fv G σ o j = v) (hdg : decode M.2.1 pc = .ok (.getfield idx, 3)) (k : WP G M (pc + 3) lv (v :: rest) σ Q) : WP G M pc lv (.ref (G.1 o) :: rest) σ Q := by
  obtain ⟨ho, hc, hj⟩ := fl_N hf hk
  obtain ⟨C0, T, N, ty, ⟨h1, h2, h3, h4⟩, h5, h6, -⟩ := hf
  intro p l e s m a b me c H L ls C hP hS hl
  refine va_get (Ts := tb) (C := C0) (T := T) (N := N) (ci := ci) (fs := (List.range (ln o)).map (fv G σ o)) (v := v) C.1 C.2.1 (fun w hw => C.2.2.2.2.2.2.2.1.use hw) h2 C.2.2.2.2.1 C.2.2.2.2.2.2.2.2.1 hP o ?_ h1 j h5 (C.2.2.2.2.2.2.2.1.use h6) (fun _ h => h) ?_ hdg (k _ _ _ _ _ _ _ _ _ _ _ _ C hP hS hl)
  · rw [wl_get ho, ce, if_pos (by omega), hk]
  · simp [hj, hv]
theorem wr_getI {idx ci j o : Nat} {fin : Bool} {tj : FieldType} (hf : FL M.1.cls idx ci j fin tj) (hk : kd o = ci) (hs : fk ci j = 0) (hdg : decode M.2.1 pc = .ok (.getfield idx, 3)) (k : WP G M (pc + 3) lv (.int (σ.1 o j) :: rest) σ Q) : WP G M pc lv (.ref (G.1 o) :: rest) σ Q := wr_get hf hk (by rw [fv, hk, hs]; rfl) hdg k
theorem wr_getL {idx ci j o : Nat} {fin : Bool} {tj : FieldType} (hf : FL M.1.cls idx ci j fin tj) (hk : kd o = ci) (hs : fk ci j = 1) (hdg : decode M.2.1 pc = .ok (.getfield idx, 3)) (k : WP G M (pc + 3) lv (.long (σ.2.1 o j) :: rest) σ Q) : WP G M pc lv (.ref (G.1 o) :: rest) σ Q := wr_get hf hk (by rw [fv, hk, hs]; rfl) hdg k
theorem wr_getR {idx ci j o : Nat} {fin : Bool} {tj : FieldType} (hf : FL M.1.cls idx ci j fin tj) (hk : kd o = ci) (hs : fk ci j = 2) (hdg : decode M.2.1 pc = .ok (.getfield idx, 3)) (k : WP G M (pc + 3) lv (.ref (G.1 (rt o j)) :: rest) σ Q) : WP G M pc lv (.ref (G.1 o) :: rest) σ Q := wr_get hf hk (by rw [fv, hk, hs]; rfl) hdg k
theorem wr_getN {idx ci j o : Nat} {fin : Bool} {tj : FieldType} (hf : FL M.1.cls idx ci j fin tj) (hk : kd o = ci) (hs : fk ci j = 3) (hdg : decode M.2.1 pc = .ok (.getfield idx, 3)) (k : WP G M (pc + 3) lv (.ref (G.1 (σ.2.2 o j)) :: rest) σ Q) : WP G M pc lv (.ref (G.1 o) :: rest) σ Q := wr_get hf hk (by rw [fv, hk, hs]; rfl) hdg k
theorem wr_put {idx ci j o : Nat} {tj : FieldType} {v : Value} {σ' : Hp} (hf : FL M.1.cls idx ci j false tj) (hk : kd o = ci) (hn : narrow tj v = v) (hft : fits tj v = true) (h1' : ∀ i, fv G σ' o i = if i = j then v else fv G σ o i) (h2' : ∀ i, i ≠ o → ce G σ' i = ce G σ i) (hdg : decode M.2.1 pc = .ok (.putfield idx, 3)) (k : WP G M (pc + 3) lv rest σ' Q) : WP G M pc lv (v :: .ref (G.1 o) :: rest) σ Q := by
  obtain ⟨ho, hc, hj⟩ := fl_N hf hk
  obtain ⟨C0, T, N, ty, ⟨h1, h2, h3, h4⟩, h5, h6, h7, h8⟩ := hf
  intro p l e s m a b me c H L ls C hP hS hl
  refine va_put (Ts := tb) (C := C0) (T := T) (N := N) (ci := ci) (fs := (List.range (ln o)).map (fv G σ o)) (v := v) (ty := tj) C.1 C.2.1 (fun w hw => C.2.2.2.2.2.2.2.1.use hw) h2 ty h3 h4 C.2.2.2.2.1 C.2.2.2.2.2.2.2.2.1 hP (wl_D C.2.2.2.2.2.2.1) hS o ?_ h1 j h5 (C.2.2.2.2.2.2.2.1.use h6) (fun _ h => h) h7 (by rw [h3 j h5, h8]) hn hft (by simpa using hj) hdg (fun H1 L1 hP1 _ hS1 => k _ _ _ _ _ _ _ _ _ _ _ _ C ?_ hS1 hl)
  · rw [wl_get ho, ce, if_pos (by omega), hk]
  · rw [wl_set (σ := σ) (σ' := σ') ?_ h2'] at hP1
    · exact hP1
    · rw [ce, if_pos (by omega), hk]
      congr 2
      apply List.ext_getElem?
      intro i
      rw [List.getElem?_set, List.getElem?_map, List.getElem?_map]
      by_cases hi : i < ln o
      · rw [List.getElem?_range hi]
        by_cases hij : j = i
        · subst hij; simp [h1', hi]
        · have hji : ¬ i = j := fun h => hij h.symm
          simp [h1', hij, hji]
      · rw [List.getElem?_eq_none (by simpa using hi)]
        by_cases hij : j = i
        · subst hij; exact absurd hj hi
        · simp [hij]
theorem wr_putI {idx ci j o : Nat} {tj : FieldType} {x : Int32} (hf : FL M.1.cls idx ci j false tj) (hk : kd o = ci) (hs : fk ci j = 0) (hn : narrow tj (.int x) = .int x) (hft : fits tj (.int x) = true) (hdg : decode M.2.1 pc = .ok (.putfield idx, 3)) (k : WP G M (pc + 3) lv rest (wI σ o j x) Q) : WP G M pc lv (.int x :: .ref (G.1 o) :: rest) σ Q := by
  refine wr_put hf hk hn hft (σ' := wI σ o j x) (fun i => ?_) (fun i hi => ?_) hdg k
  · by_cases hij : i = j
    · subst hij; simp [fv, hk, hs, wI, up2]
    · simp only [fv, wI, up2, if_true, if_neg hij]
  · exact ce_congr (up2_ne _ _ _ hi) rfl rfl
theorem wr_putL {idx ci j o : Nat} {tj : FieldType} {x : Int64} (hf : FL M.1.cls idx ci j false tj) (hk : kd o = ci) (hs : fk ci j = 1) (hn : narrow tj (.long x) = .long x) (hft : fits tj (.long x) = true) (hdg : decode M.2.1 pc = .ok (.putfield idx, 3)) (k : WP G M (pc + 3) lv rest (wL σ o j x) Q) : WP G M pc lv (.long x :: .ref (G.1 o) :: rest) σ Q := by
  refine wr_put hf hk hn hft (σ' := wL σ o j x) (fun i => ?_) (fun i hi => ?_) hdg k
  · by_cases hij : i = j
    · subst hij; simp [fv, hk, hs, wL, up2]
    · simp only [fv, wL, up2, if_true, if_neg hij]
  · exact ce_congr rfl (up2_ne _ _ _ hi) rfl
theorem wr_putN {idx ci j o : Nat} {tj : FieldType} {x : Nat} (hf : FL M.1.cls idx ci j false tj) (hk : kd o = ci) (hs : fk ci j = 3) (hn : narrow tj (.ref (G.1 x)) = .ref (G.1 x)) (hft : fits tj (.ref (G.1 x)) = true) (hdg : decode M.2.1 pc = .ok (.putfield idx, 3)) (k : WP G M (pc + 3) lv rest (wN σ o j x) Q) : WP G M pc lv (.ref (G.1 x) :: .ref (G.1 o) :: rest) σ Q := by
  refine wr_put hf hk hn hft (σ' := wN σ o j x) (fun i => ?_) (fun i hi => ?_) hdg k
  · by_cases hij : i = j
    · subst hij; simp [fv, hk, hs, wN, up2]
    · simp only [fv, wN, up2, if_true, if_neg hij]
  · exact ce_congr rfl rfl (up2_ne _ _ _ hi)
theorem vp_in_pos {i : Int32} {n : Nat} (h : vp_in i n) : 0 < n := by
  have h2 : i.toNatClampNeg < n := Nat.not_le.mp fun q => h (Or.inr q)
  omega
theorem iln_kd {i : Int32} {a : Nat} (h : vp_in i (iln a)) : kd a = 10 ∧ iln a = ln a ∧ a < 93 := by
  have h2 := vp_in_pos h
  unfold iln at h2 ⊢
  by_cases h3 : kd a = 10
  · rw [if_pos h3]; exact ⟨h3, rfl, kd_lt (by omega)⟩
  · rw [if_neg h3] at h2; omega
theorem lln_kd {i : Int32} {a : Nat} (h : vp_in i (lln a)) : kd a = 11 ∧ lln a = ln a ∧ a < 93 := by
  have h2 := vp_in_pos h
  unfold lln at h2 ⊢
  by_cases h3 : kd a = 11
  · rw [if_pos h3]; exact ⟨h3, rfl, kd_lt (by omega)⟩
  · rw [if_neg h3] at h2; omega
theorem ce_i {a : Nat} (h : kd a = 10) : ce G σ a = .inl (G.2.2 0, ln a, .inl (σ.1 a)) := by rw [ce, if_neg (by omega), if_pos h]
theorem ce_l {a : Nat} (h : kd a = 11) : ce G σ a = .inl (G.2.2 1, ln a, .inr (.inl (σ.2.1 a))) := by rw [ce, if_neg (by omega), if_neg (by omega), if_pos h]
theorem ce_s {a : Nat} (h : kd a = 12) : ce G σ a = .inl (G.2.2 2, ln a, .inr (.inr (.inr (.inr (fun j => some (G.1 (rt a j))))))) := by rw [ce, if_neg (by omega), if_neg (by omega), if_neg (by omega), if_pos h]
theorem ce_t {a : Nat} (h : kd a = 13) : ce G σ a = .inl (G.2.2 3, ln a, .inr (.inr (.inr (.inr (fun j => some (G.1 (rt a j))))))) := by rw [ce, if_neg (by omega), if_neg (by omega), if_neg (by omega), if_neg (by omega)]
theorem wr_iald {a : Nat} {i : Int32} (hin : vp_in i (iln a)) (hdg : decode M.2.1 pc = .ok (.iaload, 1)) (k : WP G M (pc + 1) lv (.int (σ.1 a i.toNatClampNeg) :: rest) σ Q) : WP G M pc lv (.int i :: .ref (G.1 a) :: rest) σ Q := by
  obtain ⟨h1, h2, h3⟩ := iln_kd hin
  rw [h2] at hin
  exact fun p l e s m a0 b me c H L ls C hP hS hl => va_iald C.1 C.2.1 C.2.2.2.2.2.2.2.2.1 hP a 0 (by rw [wl_get h3, ce_i h1]) rfl hin hdg (k _ _ _ _ _ _ _ _ _ _ _ _ C hP hS hl)
theorem wr_lald {a : Nat} {i : Int32} (hin : vp_in i (lln a)) (hdg : decode M.2.1 pc = .ok (.laload, 1)) (k : WP G M (pc + 1) lv (.long (σ.2.1 a i.toNatClampNeg) :: rest) σ Q) : WP G M pc lv (.int i :: .ref (G.1 a) :: rest) σ Q := by
  obtain ⟨h1, h2, h3⟩ := lln_kd hin
  rw [h2] at hin
  exact fun p l e s m a0 b me c H L ls C hP hS hl => va_lald C.1 C.2.1 C.2.2.2.2.2.2.2.2.1 hP a 1 (by rw [wl_get h3, ce_l h1]) rfl hin hdg (k _ _ _ _ _ _ _ _ _ _ _ _ C hP hS hl)
theorem wr_iast {a : Nat} {i x : Int32} (hin : vp_in i (iln a)) (hdg : decode M.2.1 pc = .ok (.iastore, 1)) (k : WP G M (pc + 1) lv rest (wI σ a i.toNatClampNeg x) Q) : WP G M pc lv (.int x :: .int i :: .ref (G.1 a) :: rest) σ Q := by
  obtain ⟨h1, h2, h3⟩ := iln_kd hin
  rw [h2] at hin
  refine fun p l e s m a0 b me c H L ls C hP hS hl => va_iast C.1 C.2.1 C.2.2.2.2.2.2.2.2.1 hP (wl_D C.2.2.2.2.2.2.1) hS a 0 (by rw [wl_get h3, ce_i h1]) rfl hin hdg (fun H1 L1 hP1 _ hS1 => k _ _ _ _ _ _ _ _ _ _ _ _ C ?_ hS1 hl)
  rw [wl_set (σ := σ) (σ' := wI σ a i.toNatClampNeg x) ?_ (fun j hj => ce_congr (up2_ne _ _ _ hj) rfl rfl)] at hP1
  · exact hP1
  · rw [ce_i h1]
    simp only [wI, up2_row]
    rfl
theorem wr_last {a : Nat} {i : Int32} {x : Int64} (hin : vp_in i (lln a)) (hdg : decode M.2.1 pc = .ok (.lastore, 1)) (k : WP G M (pc + 1) lv rest (wL σ a i.toNatClampNeg x) Q) : WP G M pc lv (.long x :: .int i :: .ref (G.1 a) :: rest) σ Q := by
  obtain ⟨h1, h2, h3⟩ := lln_kd hin
  rw [h2] at hin
  refine fun p l e s m a0 b me c H L ls C hP hS hl => va_last C.1 C.2.1 C.2.2.2.2.2.2.2.2.1 hP (wl_D C.2.2.2.2.2.2.1) hS a 1 (by rw [wl_get h3, ce_l h1]) rfl hin hdg (fun H1 L1 hP1 _ hS1 => k _ _ _ _ _ _ _ _ _ _ _ _ C ?_ hS1 hl)
  rw [wl_set (σ := σ) (σ' := wL σ a i.toNatClampNeg x) ?_ (fun j hj => ce_congr rfl (up2_ne _ _ _ hj) rfl)] at hP1
  · exact hP1
  · rw [ce_l h1]
    simp only [wL, up2_row]
    rfl
theorem wr_aald {a : Nat} {i : Int32} (hin : vp_in i (rln a)) (hdg : decode M.2.1 pc = .ok (.aaload, 1)) (k : WP G M (pc + 1) lv (.ref (G.1 (rt a i.toNatClampNeg)) :: rest) σ Q) : WP G M pc lv (.int i :: .ref (G.1 a) :: rest) σ Q := by
  have h0 := vp_in_pos hin
  unfold rln at hin h0
  by_cases h1 : kd a = 12
  · rw [if_pos h1] at hin
    exact fun p l e s m a0 b me c H L ls C hP hS hl => va_aldq C.1 C.2.1 C.2.2.2.2.2.2.2.2.1 hP a 2 (by rw [wl_get (kd_lt (by omega)), ce_s h1]) rfl hin hdg (k _ _ _ _ _ _ _ _ _ _ _ _ C hP hS hl)
  · rw [if_neg h1] at hin h0
    by_cases h2 : kd a = 13
    · rw [if_pos h2] at hin
      exact fun p l e s m a0 b me c H L ls C hP hS hl => va_aldq C.1 C.2.1 C.2.2.2.2.2.2.2.2.1 hP a 3 (by rw [wl_get (kd_lt (by omega)), ce_t h2]) rfl hin hdg (k _ _ _ _ _ _ _ _ _ _ _ _ C hP hS hl)
    · rw [if_neg h2] at h0
      omega
theorem wr_alen {a : Nat} (h1 : kd a = 10) (hdg : decode M.2.1 pc = .ok (.arraylength, 1)) (k : WP G M (pc + 1) lv (.int (nI (ln a)) :: rest) σ Q) : WP G M pc lv (.ref (G.1 a) :: rest) σ Q :=
  fun p l e s m a0 b me c H L ls C hP hS hl => va_alen C.1 C.2.1 C.2.2.2.2.2.2.2.2.1 hP a 0 (by rw [wl_get (kd_lt (by omega)), ce_i h1]) rfl rfl hdg (k _ _ _ _ _ _ _ _ _ _ _ _ C hP hS hl)
theorem wr_copy {a0 a idx : Nat} {sp dp n : Int32} (hlk : Cond.methodLink M.1.cls idx arraycopyName ∈ tb) (hk0 : kd a0 = 10) (hk1 : kd a = 10) (h1 : ¬ sp < 0) (h2 : ¬ dp < 0) (h3 : ¬ n < 0) (h4 : sp.toNatClampNeg + n.toNatClampNeg ≤ iln a0) (h5 : dp.toNatClampNeg + n.toNatClampNeg ≤ iln a) (hfr : 1 ≤ M.2.2.2.2.1) (hlo : (rest.map fun v => v.category).sum + 18 ≤ M.2.2.2.2.2) (hdg : decode M.2.1 pc = .ok (.invokestatic idx, 3)) (k : WP G M (pc + 3) lv rest (wR σ a (va_cpy (σ.1 a0) (σ.1 a) sp.toNatClampNeg dp.toNatClampNeg n.toNatClampNeg)) Q) : WP G M pc lv (.int n :: .int dp :: .ref (G.1 a) :: .int sp :: .ref (G.1 a0) :: rest) σ Q := by
  rw [iln, if_pos hk0] at h4
  rw [iln, if_pos hk1] at h5
  refine fun p l e s m aa b me c H L ls C hP hS hl => va_copyi C.1 C.2.1 (by rw [C.2.2.2.1, hl.1]) C.2.2.2.2.1 (C.2.2.2.2.2.2.2.1.use hlk) (C.2.2.2.2.2.2.2.1.use ac_nat) (C.2.2.2.2.2.2.2.1.use ac_sta) (C.2.2.2.2.2.2.2.1.use ac_ini) C.2.2.2.2.2.2.2.2.1 hP (wl_D C.2.2.2.2.2.2.1) hS a0 a 0 0 (by rw [wl_get (kd_lt (by omega)), ce_i hk0]) (by rw [wl_get (kd_lt (by omega)), ce_i hk1]) rfl rfl rfl h1 h2 h3 h4 h5 (fun _ _ => rfl) hfr (Nat.le_trans (Nat.le_of_eq rfl) hlo) hdg (fun H1 L1 hP1 _ hS1 => k _ _ _ _ _ _ _ _ _ _ _ _ C ?_ hS1 hl)
  rw [wl_set (σ := σ) (σ' := wR σ a (va_cpy (σ.1 a0) (σ.1 a) sp.toNatClampNeg dp.toNatClampNeg n.toNatClampNeg)) ?_ (fun j hj => ce_congr (by simp [wR, hj]) rfl rfl)] at hP1
  · exact hP1
  · rw [ce_i hk1]
    simp [wR]
theorem wr_iret {x : Int32} (hr : M.2.2.2.1 = some .int) (hdg : decode M.2.1 pc = .ok (.ireturn, 1)) (h : Q (some (.int x)) σ) : WP G M pc lv [.int x] σ Q := fun p l e s m a b me c H L ls C hP hS hl => W.iret C.1 C.2.1 (by rw [C.2.2.1]; exact hr) (fun t ht hW => ⟨⟨_, σ, rfl, h, by rw [ht]; exact hP⟩, hS.F ht⟩) hS.2.2 hdg C.2.2.2.2.2.1
theorem wr_zret {x : Int32} {ty : FieldType} (hr : M.2.2.2.1 = some ty) (hn : narrow ty (.int x) = .int x) (hdg : decode M.2.1 pc = .ok (.ireturn, 1)) (h : Q (some (.int x)) σ) : WP G M pc lv [.int x] σ Q := fun p l e s m a b me c H L ls C hP hS hl => W.zret C.1 C.2.1 (by rw [C.2.2.1]; exact hr) hn (fun t ht hW => ⟨⟨_, σ, rfl, h, by rw [ht]; exact hP⟩, hS.F ht⟩) hS.2.2 hdg C.2.2.2.2.2.1
theorem wr_lret {x : Int64} (hr : M.2.2.2.1 = some .long) (hdg : decode M.2.1 pc = .ok (.lreturn, 1)) (h : Q (some (.long x)) σ) : WP G M pc lv [.long x] σ Q := fun p l e s m a b me c H L ls C hP hS hl => W.lret C.1 C.2.1 (by rw [C.2.2.1]; exact hr) (fun t ht hW => ⟨⟨_, σ, rfl, h, by rw [ht]; exact hP⟩, hS.F ht⟩) hS.2.2 hdg C.2.2.2.2.2.1
theorem wr_vret (hr : M.2.2.2.1 = none) (hdg : decode M.2.1 pc = .ok (.return_, 1)) (h : Q none σ) : WP G M pc lv [] σ Q := fun p l e s m a b me c H L ls C hP hS hl => W.vret C.1 C.2.1 (by rw [C.2.2.1]; exact hr) (fun t ht hW => ⟨⟨_, σ, rfl, h, by rw [ht]; exact hP⟩, hS.F ht⟩) hS.2.2 hdg C.2.2.2.2.2.1
theorem wr_aret {x : Nat} {nm : String} (hr : M.2.2.2.1 = some (.object nm)) (hdg : decode M.2.1 pc = .ok (.areturn, 1)) (h : Q (some (.ref x)) σ) : WP G M pc lv [.ref x] σ Q := fun p l e s m a b me c H L ls C hP hS hl => W.aret C.1 C.2.1 (by rw [C.2.2.1]; exact hr) (Or.inl ⟨_, rfl⟩) (Or.inr ⟨_, rfl⟩) (fun t ht hW => ⟨⟨_, σ, rfl, h, by rw [ht]; exact hP⟩, hS.F ht⟩) hS.2.2 hdg C.2.2.2.2.2.1
theorem goodCode {Mc : MT} (h : Cond.code Mc.1 Mc.2.1 Mc.2.2.1 Mc.2.2.2.1 ∈ tb) : GoodIn tb [Cond.code Mc.1 Mc.2.1 Mc.2.2.1 Mc.2.2.2.1] := by
  intro w hw
  rw [List.mem_singleton.mp hw]
  exact ⟨h, Or.inl rfl⟩
theorem wr_callV {Mc : MT} {idx o ci n : Nat} {As st : List Value} {Q' : Option Value → Hp → Prop} (hF : CF M.1.cls idx Mc n) (hV : CV Mc) (hk : kd o = ci) (hc : (vwCl[ci]?).map (fun r => r.1) = some Mc.1.cls) (hR : Mc.2.2.2.2.1 + 1 ≤ M.2.2.2.2.1 ∧ 8 + (Mc.2.2.1 + 11) + Mc.2.2.2.2.2 ≤ M.2.2.2.2.2) (hn : As.length = n) (hst : As.reverse ++ .ref (G.1 o) :: rest = st) (hw : (rest.map fun v => v.category).sum ≤ 8) (hdg : decode M.2.1 pc = .ok (.invokevirtual idx, 3)) (hM : CT G Mc (.ref (G.1 o) :: As) σ Q') (K : ∀ v τ, Q' v τ → WP G M (pc + 3) lv (v.toList ++ rest) τ Q) : WP G M pc lv st σ Q := by
  subst hst
  intro p l e s m a b me c H L ls C hP hS hl
  obtain ⟨f1, f2, f3, f4⟩ := hF
  have hts : ∀ w ∈ tb, w.before a s = true := fun w hw => C.2.2.2.2.2.2.2.1.use hw
  obtain ⟨r, hr1, hr2⟩ : ∃ r, vwCl[ci]? = some r ∧ r.1 = Mc.1.cls := by
    cases h : vwCl[ci]? with
    | none => rw [h] at hc; cases hc
    | some r => rw [h] at hc; exact ⟨r, rfl, Option.some.inj hc⟩
  have hci : ci < 10 := (List.getElem?_eq_some_iff.mp hr1).1
  have hrecv := va_recv (a := G.1 o) (fs := (List.range (ln o)).map (fv G σ o)) C.2.2.2.2.2.2.2.2.1 hP hr1 (q0 := o) (by rw [wl_get (kd_lt (by omega)), ce, if_pos (by omega), hk])
  rw [hr2] at hrecv
  have hp := wp_pre C hP hS (.ref (G.1 o) :: As)
  rcases f4 with f4 | ⟨host, f4⟩
  · exact wp_after (va_runV (g := F0 m pc ls (As.reverse ++ .ref (G.1 o) :: rest)) (Ts := tb) (C := Mc.1.cls) ⟨C.1, C.2.1, C.2.2.2.1, C.2.2.2.2.1, hts⟩ (hM l) ⟨callB_of n hts (goodCode f1) rfl rfl rfl (hts _ f2) (hts _ f4) f3 hR, hts _ hV.1, hts _ hV.2⟩ ⟨hp.1, hrecv, hp.2⟩ rfl hn hl.1 rfl (lv_room (m := m) (pc := pc) (ls := ls) hw) hdg ⟨Nat.zero_le _, Nat.zero_le _⟩) C hS hl K
  · exact wp_after (va_runVN (g := F0 m pc ls (As.reverse ++ .ref (G.1 o) :: rest)) (Ts := tb) (C := Mc.1.cls) (host := host) ⟨C.1, C.2.1, C.2.2.2.1, C.2.2.2.2.1, hts⟩ (hM l) ⟨va_cnB n hts (goodCode f1) rfl rfl rfl (C.2.2.2.2.2.2.2.1 _ f4) (hts _ f2) f3 hR, hts _ hV.1, hts _ hV.2⟩ ⟨hp.1, hrecv, hp.2⟩ rfl hn hl.1 rfl (lv_room (m := m) (pc := pc) (ls := ls) hw) hdg ⟨Nat.zero_le _, Nat.zero_le _⟩) C hS hl K
theorem wr_callS {Mc : MT} {idx n : Nat} {As st : List Value} {Q' : Option Value → Hp → Prop} (hF : CF M.1.cls idx Mc n) (hV : CS Mc) (hR : Mc.2.2.2.2.1 + 1 ≤ M.2.2.2.2.1 ∧ 8 + (Mc.2.2.1 + 11) + Mc.2.2.2.2.2 ≤ M.2.2.2.2.2) (hn : As.length = n) (hst : As.reverse ++ rest = st) (hw : (rest.map fun v => v.category).sum ≤ 8) (hdg : decode M.2.1 pc = .ok (.invokestatic idx, 3)) (hM : CT G Mc As σ Q') (K : ∀ v τ, Q' v τ → WP G M (pc + 3) lv (v.toList ++ rest) τ Q) : WP G M pc lv st σ Q := by
  subst hst
  intro p l e s m a b me c H L ls C hP hS hl
  obtain ⟨f1, f2, f3, f4⟩ := hF
  have hts : ∀ w ∈ tb, w.before a s = true := fun w hw => C.2.2.2.2.2.2.2.1.use hw
  have hp := wp_pre C hP hS As
  rcases f4 with f4 | ⟨host, f4⟩
  · exact wp_after (va_runS (g := F0 m pc ls (As.reverse ++ rest)) (Ts := tb) ⟨C.1, C.2.1, C.2.2.2.1, C.2.2.2.2.1, hts⟩ (hM l) ⟨callB_of n hts (goodCode f1) rfl rfl rfl (hts _ f2) (hts _ f4) f3 hR, hts _ hV⟩ hp rfl hn hl.1 rfl (lv_room (m := m) (pc := pc) (ls := ls) hw) hdg ⟨Nat.zero_le _, Nat.zero_le _⟩) C hS hl K
  · exact wp_after (va_runSN (g := F0 m pc ls (As.reverse ++ rest)) (Ts := tb) (host := host) ⟨C.1, C.2.1, C.2.2.2.1, C.2.2.2.2.1, hts⟩ (hM l) ⟨va_cnB n hts (goodCode f1) rfl rfl rfl (C.2.2.2.2.2.2.2.1 _ f4) (hts _ f2) f3 hR, hts _ hV, trivial⟩ hp rfl hn hl.1 rfl (lv_room (m := m) (pc := pc) (ls := ls) hw) hdg ⟨Nat.zero_le _, Nat.zero_le _⟩) C hS hl K

end WROWS
