/-! A small machine of my own: frames as lists, objects as (family, number), whole numbers and references apart.
What a family is: one place of the code where an object or a row is made; its number: the how-many-eth made there. -/
abbrev sm_R : Type := Option (Nat × Nat)
abbrev sm_V : Type := Int32 ⊕ (Int64 ⊕ sm_R)
abbrev sm_L : Type := List (Option sm_V)
abbrev sm_S : Type := List sm_V
/-- cells made, slots made, how many of a family, references by family, number, slot -/
abbrev sm_G : Type := Nat × Nat × (Nat → Nat) × (Nat → Nat → Nat → sm_R)
/-- whole numbers by family, number, slot -/
abbrev sm_M : Type := Nat → Nat → Nat → Int32
abbrev sm_T : Type := Nat × sm_L × sm_S × sm_G × sm_M
/-- what an instruction comes to: a state; a state if a check holds; one of two places; one of several; a call; an answer -/
abbrev sm_N : Type := Option (sm_T ⊕ ((Bool × sm_T) ⊕ ((Bool × Nat × Nat × sm_L × sm_S) ⊕ ((Int32 × List (Int32 × Nat) × Nat × sm_L × sm_S) ⊕ ((Bool × Nat × sm_L × Nat × sm_L × sm_S) ⊕ (Bool × Option sm_V))))))
abbrev sm_go (pc : Nat) (L : sm_L) (S : sm_S) (G : sm_G) (M : sm_M) : sm_N := some (.inl (pc, L, S, G, M))
abbrev sm_ck (c : Bool) (pc : Nat) (L : sm_L) (S : sm_S) (G : sm_G) (M : sm_M) : sm_N := some (.inr (.inl (c, pc, L, S, G, M)))
abbrev sm_br (c : Bool) (p1 p2 : Nat) (L : sm_L) (S : sm_S) : sm_N := some (.inr (.inr (.inl (c, p1, p2, L, S))))
abbrev sm_sx (x : Int32) (t : List (Int32 × Nat)) (d : Nat) (L : sm_L) (S : sm_S) : sm_N := some (.inr (.inr (.inr (.inl (x, t, d, L, S)))))
abbrev sm_ca (c : Bool) (k : Nat) (L0 : sm_L) (pc : Nat) (L : sm_L) (S : sm_S) : sm_N := some (.inr (.inr (.inr (.inr (.inl (c, k, L0, pc, L, S))))))
abbrev sm_rt (c : Bool) (r : Option sm_V) : sm_N := some (.inr (.inr (.inr (.inr (.inr (c, r))))))
def sm_at : sm_L → Nat → Option sm_V
  | [], _ => none
  | x :: _, 0 => x
  | _ :: t, n + 1 => sm_at t n
def sm_pt : sm_L → Nat → Option sm_V → sm_L
  | [], _, _ => []
  | _ :: t, 0, v => v :: t
  | x :: t, n + 1, v => x :: sm_pt t n v
def sm_u (M : sm_M) (f i k : Nat) (v : Int32) : sm_M := fun f' i' k' => if f' = f ∧ i' = i ∧ k' = k then v else M f' i' k'
def sm_ur (M : Nat → Nat → Nat → sm_R) (f i k : Nat) (v : sm_R) : Nat → Nat → Nat → sm_R := fun f' i' k' => if f' = f ∧ i' = i ∧ k' = k then v else M f' i' k'
def sm_z (M : sm_M) (f i : Nat) : sm_M := fun f' i' k' => if f' = f ∧ i' = i then 0 else M f' i' k'
def sm_zr (M : Nat → Nat → Nat → sm_R) (f i : Nat) : Nat → Nat → Nat → sm_R := fun f' i' k' => if f' = f ∧ i' = i then none else M f' i' k'
def sm_cu (c : Nat → Nat) (f v : Nat) : Nat → Nat := fun f' => if f' = f then v else c f'
/-- n places of one row into another (both as they were) -/
def sm_cp (M : sm_M) (f h i g e j n : Nat) : sm_M := fun f' i' k' => if f' = g ∧ i' = e ∧ j ≤ k' ∧ k' < j + n then M f h (i + (k' - j)) else M f' i' k'
def sm_in (x : Int32) (n : Nat) : Bool := !(decide (x < 0)) && decide (x.toNatClampNeg < n)
def sm_zb (v : Int32) : Bool := decide (v = 0) || decide (v = 1)
def sm_c1 (v : sm_V) : Bool := match v with
  | .inr (.inl _) => false
  | _ => true
def sm_all1 : sm_S → Bool
  | [] => true
  | v :: r => sm_c1 v && sm_all1 r
def sm_tk : Nat → sm_S → sm_L → sm_L
  | 0, _, acc => acc
  | _ + 1, [], acc => acc
  | n + 1, v :: r, acc => sm_tk n r (some v :: acc)
def sm_dr : Nat → sm_S → sm_S
  | 0, s => s
  | _ + 1, [] => []
  | n + 1, _ :: r => sm_dr n r
def sm_pad : Nat → sm_L → sm_L
  | 0, l => l
  | n + 1, [] => none :: sm_pad n []
  | n + 1, v :: r => v :: sm_pad n r
/-- the receiver's kind is as the called one wants it (200: it has none) -/
def sm_rcv (c : Nat) (l : sm_L) : Bool := match c with
  | 200 => true
  | _ => match l with
    | some (.inr (.inr (some (f, _)))) :: _ => Nat.beq (sm_fc f) c
    | _ => false
def sm_len (G : sm_G) (f : Nat) : Nat := match f with
  | 0 => G.2.2.1 0
  | _ => sm_ln f
def sm_nar (fc : Nat) (v : Int32) : Int32 := match fc with
  | 101 => vp_nar .byte v
  | _ => vp_nar .boolean v
/-- a comparison: 0 eq, 1 ne, 2 lt, 3 ge, 4 gt, 5 le -/
def sm_cmp (t : Nat) (x y : Int32) (p1 p2 : Nat) (L : sm_L) (S : sm_S) : sm_N := match t with
  | 0 => sm_br (decide (x = y)) p1 p2 L S
  | 1 => sm_br (decide (x = y)) p2 p1 L S
  | 2 => sm_br (decide (x < y)) p1 p2 L S
  | 3 => sm_br (decide (x < y)) p2 p1 L S
  | 4 => sm_br (decide (y < x)) p1 p2 L S
  | _ => sm_br (decide (y < x)) p2 p1 L S
def sm_bin (t : Nat) (x y : Int32) : Int32 := match t with
  | 6 => x + y
  | 7 => x - y
  | 8 => x * y
  | 9 => x / y
  | 10 => x - x / y * y
  | 12 => x <<< (y &&& 31)
  | 13 => x >>> (y &&& 31)
  | 14 => (x.toUInt32 >>> (y.toUInt32 &&& Int32.toUInt32 31)).toInt32
  | 15 => x &&& y
  | 16 => x ||| y
  | _ => x ^^^ y
/-! one instruction, by its number: its two numbers, the next place, its constant -/
def sm_t0 (a b nx : Nat) (z : Int32) (L : sm_L) (S : sm_S) (G : sm_G) (M : sm_M) : sm_N := sm_go nx L (.inl z :: S) G M
def sm_t1 (a b nx : Nat) (z : Int32) (L : sm_L) (S : sm_S) (G : sm_G) (M : sm_M) : sm_N := match sm_at L a with
  | some (.inl x) => sm_go nx L (.inl x :: S) G M
  | _ => none
def sm_t2 (a b nx : Nat) (z : Int32) (L : sm_L) (S : sm_S) (G : sm_G) (M : sm_M) : sm_N := match sm_at L a with
  | some (.inr (.inr q)) => sm_go nx L (.inr (.inr q) :: S) G M
  | _ => none
def sm_t3 (a b nx : Nat) (z : Int32) (L : sm_L) (S : sm_S) (G : sm_G) (M : sm_M) : sm_N := match S with
  | .inl x :: r => sm_go nx (sm_pt L a (some (.inl x))) r G M
  | _ => none
def sm_t4 (a b nx : Nat) (z : Int32) (L : sm_L) (S : sm_S) (G : sm_G) (M : sm_M) : sm_N := match S with
  | .inr (.inr q) :: r => sm_go nx (sm_pt L a (some (.inr (.inr q)))) r G M
  | _ => none
def sm_t5 (a b nx : Nat) (z : Int32) (L : sm_L) (S : sm_S) (G : sm_G) (M : sm_M) : sm_N := match sm_at L a with
  | some (.inl x) => sm_go nx (sm_pt L a (some (.inl (x + z)))) S G M
  | _ => none
def sm_t9 (a b nx : Nat) (z : Int32) (L : sm_L) (S : sm_S) (G : sm_G) (M : sm_M) : sm_N := match S with
  | .inl y :: .inl x :: r => sm_ck (!decide (y = 0)) nx L (.inl (x / y) :: r) G M
  | _ => none
def sm_t10 (a b nx : Nat) (z : Int32) (L : sm_L) (S : sm_S) (G : sm_G) (M : sm_M) : sm_N := match S with
  | .inl y :: .inl x :: r => sm_ck (!decide (y = 0)) nx L (.inl (x - x / y * y) :: r) G M
  | _ => none
def sm_t11 (a b nx : Nat) (z : Int32) (L : sm_L) (S : sm_S) (G : sm_G) (M : sm_M) : sm_N := match S with
  | .inl x :: r => sm_go nx L (.inl (-x) :: r) G M
  | _ => none
def sm_t18 (a b nx : Nat) (z : Int32) (L : sm_L) (S : sm_S) (G : sm_G) (M : sm_M) : sm_N := match S with
  | .inl x :: r => sm_go nx L (.inl x.toInt8.toInt32 :: r) G M
  | _ => none
def sm_t19 (a b nx : Nat) (z : Int32) (L : sm_L) (S : sm_S) (G : sm_G) (M : sm_M) : sm_N := match S with
  | .inl x :: r => sm_go nx L (.inl x.toInt16.toInt32 :: r) G M
  | _ => none
def sm_t20 (tag : Nat) (a b nx : Nat) (z : Int32) (L : sm_L) (S : sm_S) (G : sm_G) (M : sm_M) : sm_N := match S with
  | .inl x :: r => sm_cmp (tag - 20) x 0 b nx L r
  | _ => none
def sm_t26 (tag : Nat) (a b nx : Nat) (z : Int32) (L : sm_L) (S : sm_S) (G : sm_G) (M : sm_M) : sm_N := match S with
  | .inl y :: .inl x :: r => sm_cmp (tag - 26) x y b nx L r
  | _ => none
def sm_t32 (a b nx : Nat) (z : Int32) (L : sm_L) (S : sm_S) (G : sm_G) (M : sm_M) : sm_N := sm_go b L S G M
def sm_t33 (a b nx : Nat) (z : Int32) (L : sm_L) (S : sm_S) (G : sm_G) (M : sm_M) : sm_N := match S with
  | .inr (.inr none) :: r => sm_go b L r G M
  | .inr (.inr (some _)) :: r => sm_go nx L r G M
  | _ => none
def sm_t34 (a b nx : Nat) (z : Int32) (L : sm_L) (S : sm_S) (G : sm_G) (M : sm_M) : sm_N := match S with
  | .inr (.inr none) :: r => sm_go nx L r G M
  | .inr (.inr (some _)) :: r => sm_go b L r G M
  | _ => none
def sm_t35 (a b nx : Nat) (z : Int32) (L : sm_L) (S : sm_S) (G : sm_G) (M : sm_M) : sm_N := match S with
  | .inr (.inr (some (f, i))) :: .inr (.inr (some (g, j))) :: r => cond (Nat.ble 10 f) (sm_br (Nat.beq f g && Nat.beq i j) b nx L r) none
  | _ => none
def sm_t37 (a b nx : Nat) (z : Int32) (L : sm_L) (S : sm_S) (G : sm_G) (M : sm_M) : sm_N := match S with
  | .inl x :: r => sm_sx x (sm_sw a) (sm_sd a) L r
  | _ => none
def sm_t38 (a b nx : Nat) (z : Int32) (L : sm_L) (S : sm_S) (G : sm_G) (M : sm_M) : sm_N := match S with
  | .inr (.inr (some (f, i))) :: r => sm_ck (Nat.beq (sm_fc f) a) nx L (.inl (M f i b) :: r) G M
  | _ => none
def sm_t39 (a b nx : Nat) (z : Int32) (L : sm_L) (S : sm_S) (G : sm_G) (M : sm_M) : sm_N := match S with
  | .inr (.inr (some (f, i))) :: r => sm_ck (Nat.beq (sm_fc f) a) nx L (.inr (.inr (G.2.2.2 f i b)) :: r) G M
  | _ => none
def sm_t40 (a b nx : Nat) (z : Int32) (L : sm_L) (S : sm_S) (G : sm_G) (M : sm_M) : sm_N := match S with
  | .inl x :: .inr (.inr (some (f, i))) :: r => sm_ck (Nat.beq (sm_fc f) a) nx L r G (sm_u M f i b x)
  | _ => none
def sm_t41 (a b nx : Nat) (z : Int32) (L : sm_L) (S : sm_S) (G : sm_G) (M : sm_M) : sm_N := match S with
  | .inr (.inr q) :: .inr (.inr (some (f, i))) :: r => sm_ck (Nat.beq (sm_fc f) a) nx L r (G.1, G.2.1, G.2.2.1, sm_ur G.2.2.2 f i b q) M
  | _ => none
def sm_t42 (a b nx : Nat) (z : Int32) (L : sm_L) (S : sm_S) (G : sm_G) (M : sm_M) : sm_N := match S with
  | .inl x :: .inr (.inr (some (f, i))) :: r => sm_ck (Nat.beq (sm_fc f) 100 && sm_in x (sm_len G f)) nx L (.inl (M f i x.toNatClampNeg) :: r) G M
  | _ => none
def sm_t43 (a b nx : Nat) (z : Int32) (L : sm_L) (S : sm_S) (G : sm_G) (M : sm_M) : sm_N := match S with
  | .inl x :: .inr (.inr (some (f, i))) :: r => sm_ck (Nat.ble 110 (sm_fc f) && sm_in x (sm_len G f)) nx L (.inr (.inr (G.2.2.2 f i x.toNatClampNeg)) :: r) G M
  | _ => none
def sm_t44 (a b nx : Nat) (z : Int32) (L : sm_L) (S : sm_S) (G : sm_G) (M : sm_M) : sm_N := match S with
  | .inl x :: .inr (.inr (some (f, i))) :: r => sm_ck ((Nat.beq (sm_fc f) 101 || Nat.beq (sm_fc f) 102) && sm_in x (sm_len G f)) nx L (.inl (M f i x.toNatClampNeg) :: r) G M
  | _ => none
def sm_t45 (a b nx : Nat) (z : Int32) (L : sm_L) (S : sm_S) (G : sm_G) (M : sm_M) : sm_N := match S with
  | .inl v :: .inl x :: .inr (.inr (some (f, i))) :: r => sm_ck (Nat.beq (sm_fc f) 100 && Nat.ble 10 f && sm_in x (sm_len G f)) nx L r G (sm_u M f i x.toNatClampNeg v)
  | _ => none
def sm_t46 (a b nx : Nat) (z : Int32) (L : sm_L) (S : sm_S) (G : sm_G) (M : sm_M) : sm_N := match S with
  | .inl v :: .inl x :: .inr (.inr (some (f, i))) :: r => sm_ck ((Nat.beq (sm_fc f) 101 || Nat.beq (sm_fc f) 102) && Nat.ble 10 f && sm_in x (sm_len G f)) nx L r G (sm_u M f i x.toNatClampNeg (sm_nar (sm_fc f) v))
  | _ => none
def sm_t47 (a b nx : Nat) (z : Int32) (L : sm_L) (S : sm_S) (G : sm_G) (M : sm_M) : sm_N := match S with
  | .inr (.inr (some (g, j))) :: .inl x :: .inr (.inr (some (f, i))) :: r => sm_ck (Nat.beq (sm_fc f) (110 + sm_fc g) && Nat.ble 10 f && Nat.ble 10 g && sm_in x (sm_len G f)) nx L r (G.1, G.2.1, G.2.2.1, sm_ur G.2.2.2 f i x.toNatClampNeg (some (g, j))) M
  | _ => none
def sm_t48 (a b nx : Nat) (z : Int32) (L : sm_L) (S : sm_S) (G : sm_G) (M : sm_M) : sm_N := match S with
  | .inr (.inr (some (f, _))) :: r => sm_ck (Nat.ble 100 (sm_fc f)) nx L (.inl (Int32.ofNat (sm_len G f)) :: r) G M
  | _ => none
def sm_t49 (a b nx : Nat) (z : Int32) (L : sm_L) (S : sm_S) (G : sm_G) (M : sm_M) : sm_N := sm_ck (Nat.ble 10 a && Nat.ble (sm_fc a) 99) nx L (.inr (.inr (some (a, G.2.2.1 a))) :: S) (G.1 + 1, G.2.1 + sm_nf (sm_fc a), sm_cu G.2.2.1 a (G.2.2.1 a + 1), sm_zr G.2.2.2 a (G.2.2.1 a)) (sm_z M a (G.2.2.1 a))
def sm_t50 (a b nx : Nat) (z : Int32) (L : sm_L) (S : sm_S) (G : sm_G) (M : sm_M) : sm_N := match S with
  | .inl x :: r => sm_ck (Nat.ble 10 a && Nat.ble 100 (sm_fc a) && decide (x = Int32.ofNat (sm_ln a))) nx L (.inr (.inr (some (a, G.2.2.1 a))) :: r) (G.1 + 1, G.2.1 + sm_ln a, sm_cu G.2.2.1 a (G.2.2.1 a + 1), sm_zr G.2.2.2 a (G.2.2.1 a)) (sm_z M a (G.2.2.1 a))
  | _ => none
def sm_t51 (a b nx : Nat) (z : Int32) (L : sm_L) (S : sm_S) (G : sm_G) (M : sm_M) : sm_N := match S with
  | v :: r => sm_ck (sm_c1 v) nx L (v :: v :: r) G M
  | _ => none
def sm_t52 (a b nx : Nat) (z : Int32) (L : sm_L) (S : sm_S) (G : sm_G) (M : sm_M) : sm_N := match S with
  | w :: v :: r => sm_ck (sm_c1 v && sm_c1 w) nx L (w :: v :: w :: v :: r) G M
  | _ => none
def sm_t53 (a b nx : Nat) (z : Int32) (L : sm_L) (S : sm_S) (G : sm_G) (M : sm_M) : sm_N := sm_ca (Nat.ble b S.length && Nat.ble (sm_dr b S).length 8 && sm_all1 S && sm_rcv (sm_rk a) (sm_tk b S [])) a (sm_pad (sm_ml a) (sm_tk b S [])) nx L (sm_dr b S)
def sm_t54 (a b nx : Nat) (z : Int32) (L : sm_L) (S : sm_S) (G : sm_G) (M : sm_M) : sm_N := match S with
  | [.inl x] => sm_rt (Nat.beq a 0 || sm_zb x) (some (.inl x))
  | _ => none
def sm_t55 (a b nx : Nat) (z : Int32) (L : sm_L) (S : sm_S) (G : sm_G) (M : sm_M) : sm_N := match S with
  | [.inr (.inr q)] => sm_rt true (some (.inr (.inr q)))
  | _ => none
def sm_t56 (a b nx : Nat) (z : Int32) (L : sm_L) (S : sm_S) (G : sm_G) (M : sm_M) : sm_N := match S with
  | [] => sm_rt true none
  | _ => none
def sm_t57 (a b nx : Nat) (z : Int32) (L : sm_L) (S : sm_S) (G : sm_G) (M : sm_M) : sm_N := sm_go nx L (.inr (.inr none) :: S) G M
def sm_t58 (a b nx : Nat) (z : Int32) (L : sm_L) (S : sm_S) (G : sm_G) (M : sm_M) : sm_N := sm_ck (Nat.ble a 9) nx L (.inr (.inr (some (a, 0))) :: S) G M
def sm_t62 (a b nx : Nat) (z : Int32) (L : sm_L) (S : sm_S) (G : sm_G) (M : sm_M) : sm_N := match S with
  | .inr (.inr (some (f, _))) :: r => sm_ck (Nat.beq (sm_fc f) 99 && Nat.ble r.length 4 && sm_all1 r) nx L (.inl (Int32.ofNat (sm_ln f)) :: r) G M
  | _ => none
def sm_t63 (a b nx : Nat) (z : Int32) (L : sm_L) (S : sm_S) (G : sm_G) (M : sm_M) : sm_N := match S with
  | .inl x :: .inr (.inr (some (f, _))) :: r => sm_ck (Nat.beq (sm_fc f) 99 && Nat.ble r.length 4 && sm_all1 r && sm_in x (sm_ln f)) nx L (.inl (sm_sc f x.toNatClampNeg) :: r) G M
  | _ => none
def sm_t64 (a b nx : Nat) (z : Int32) (L : sm_L) (S : sm_S) (G : sm_G) (M : sm_M) : sm_N := match S with
  | .inl n :: .inl j :: .inr (.inr (some (g, e))) :: .inl i :: .inr (.inr (some (f, h))) :: r => sm_ck (Nat.beq (sm_fc f) 100 && Nat.beq (sm_fc g) 100 && Nat.ble 10 f && Nat.ble 10 g && Nat.ble r.length 3 && sm_all1 r && !decide (n < 0) && !decide (i < 0) && !decide (j < 0) && Nat.ble (i.toNatClampNeg + n.toNatClampNeg) (sm_len G f) && Nat.ble (j.toNatClampNeg + n.toNatClampNeg) (sm_len G g)) nx L r G (sm_cp M f h i.toNatClampNeg g e j.toNatClampNeg n.toNatClampNeg)
  | _ => none
def sm_t65 (a b nx : Nat) (z : Int32) (L : sm_L) (S : sm_S) (G : sm_G) (M : sm_M) : sm_N := match S with
  | .inl x :: r => sm_go nx L (.inr (.inl x.toInt64) :: r) G M
  | _ => none
def sm_t66 (a b nx : Nat) (z : Int32) (L : sm_L) (S : sm_S) (G : sm_G) (M : sm_M) : sm_N := match S with
  | .inr (.inl x) :: r => sm_go nx L (.inl x.toInt32 :: r) G M
  | _ => none
def sm_t67 (a b nx : Nat) (z : Int32) (L : sm_L) (S : sm_S) (G : sm_G) (M : sm_M) : sm_N := match S with
  | .inr (.inl y) :: .inr (.inl x) :: r => sm_go nx L (.inr (.inl (x + y)) :: r) G M
  | _ => none
def sm_t68 (a b nx : Nat) (z : Int32) (L : sm_L) (S : sm_S) (G : sm_G) (M : sm_M) : sm_N := match S with
  | .inr (.inl y) :: .inr (.inl x) :: r => sm_go nx L (.inl (lg_cmp x y) :: r) G M
  | _ => none
def sm_t69 (a b nx : Nat) (z : Int32) (L : sm_L) (S : sm_S) (G : sm_G) (M : sm_M) : sm_N := match sm_at L a with
  | some (.inr (.inl x)) => sm_go nx L (.inr (.inl x) :: S) G M
  | _ => none
def sm_t70 (a b nx : Nat) (z : Int32) (L : sm_L) (S : sm_S) (G : sm_G) (M : sm_M) : sm_N := match S with
  | .inr (.inl x) :: r => sm_go nx (sm_pt (sm_pt L a (some (.inr (.inl x)))) (a + 1) none) r G M
  | _ => none
def sm_t71 (a b nx : Nat) (z : Int32) (L : sm_L) (S : sm_S) (G : sm_G) (M : sm_M) : sm_N := sm_go nx L (.inr (.inl z.toInt64) :: S) G M
def sm_t72 (a b nx : Nat) (z : Int32) (L : sm_L) (S : sm_S) (G : sm_G) (M : sm_M) : sm_N := match S with
  | .inr (.inr (some _)) :: r => sm_ck (Nat.ble r.length 8 && sm_all1 r) nx L r G M
  | _ => none
def sm_t6 (tag : Nat) (a b nx : Nat) (z : Int32) (L : sm_L) (S : sm_S) (G : sm_G) (M : sm_M) : sm_N := match S with
  | .inl y :: .inl x :: r => sm_go nx L (.inl (sm_bin tag x y) :: r) G M
  | _ => none
def sm_dis (tag : Nat) (a b nx : Nat) (z : Int32) (L : sm_L) (S : sm_S) (G : sm_G) (M : sm_M) : sm_N := cond (Nat.ble tag 33) (cond (Nat.ble tag 16) (cond (Nat.ble tag 7) (cond (Nat.ble tag 3) (cond (Nat.ble tag 1) (cond (Nat.ble tag 0) (cond (Nat.beq tag 0) (sm_t0 a b nx z L S G M) none) (cond (Nat.beq tag 1) (sm_t1 a b nx z L S G M) none)) (cond (Nat.ble tag 2) (cond (Nat.beq tag 2) (sm_t2 a b nx z L S G M) none) (cond (Nat.beq tag 3) (sm_t3 a b nx z L S G M) none))) (cond (Nat.ble tag 5) (cond (Nat.ble tag 4) (cond (Nat.beq tag 4) (sm_t4 a b nx z L S G M) none) (cond (Nat.beq tag 5) (sm_t5 a b nx z L S G M) none)) (cond (Nat.ble tag 6) (cond (Nat.beq tag 6) (sm_t6 6 a b nx z L S G M) none) (cond (Nat.beq tag 7) (sm_t6 7 a b nx z L S G M) none)))) (cond (Nat.ble tag 11) (cond (Nat.ble tag 9) (cond (Nat.ble tag 8) (cond (Nat.beq tag 8) (sm_t6 8 a b nx z L S G M) none) (cond (Nat.beq tag 9) (sm_t9 a b nx z L S G M) none)) (cond (Nat.ble tag 10) (cond (Nat.beq tag 10) (sm_t10 a b nx z L S G M) none) (cond (Nat.beq tag 11) (sm_t11 a b nx z L S G M) none))) (cond (Nat.ble tag 13) (cond (Nat.ble tag 12) (cond (Nat.beq tag 12) (sm_t6 12 a b nx z L S G M) none) (cond (Nat.beq tag 13) (sm_t6 13 a b nx z L S G M) none)) (cond (Nat.ble tag 14) (cond (Nat.beq tag 14) (sm_t6 14 a b nx z L S G M) none) (cond (Nat.ble tag 15) (cond (Nat.beq tag 15) (sm_t6 15 a b nx z L S G M) none) (cond (Nat.beq tag 16) (sm_t6 16 a b nx z L S G M) none)))))) (cond (Nat.ble tag 24) (cond (Nat.ble tag 20) (cond (Nat.ble tag 18) (cond (Nat.ble tag 17) (cond (Nat.beq tag 17) (sm_t6 17 a b nx z L S G M) none) (cond (Nat.beq tag 18) (sm_t18 a b nx z L S G M) none)) (cond (Nat.ble tag 19) (cond (Nat.beq tag 19) (sm_t19 a b nx z L S G M) none) (cond (Nat.beq tag 20) (sm_t20 20 a b nx z L S G M) none))) (cond (Nat.ble tag 22) (cond (Nat.ble tag 21) (cond (Nat.beq tag 21) (sm_t20 21 a b nx z L S G M) none) (cond (Nat.beq tag 22) (sm_t20 22 a b nx z L S G M) none)) (cond (Nat.ble tag 23) (cond (Nat.beq tag 23) (sm_t20 23 a b nx z L S G M) none) (cond (Nat.beq tag 24) (sm_t20 24 a b nx z L S G M) none)))) (cond (Nat.ble tag 28) (cond (Nat.ble tag 26) (cond (Nat.ble tag 25) (cond (Nat.beq tag 25) (sm_t20 25 a b nx z L S G M) none) (cond (Nat.beq tag 26) (sm_t26 26 a b nx z L S G M) none)) (cond (Nat.ble tag 27) (cond (Nat.beq tag 27) (sm_t26 27 a b nx z L S G M) none) (cond (Nat.beq tag 28) (sm_t26 28 a b nx z L S G M) none))) (cond (Nat.ble tag 30) (cond (Nat.ble tag 29) (cond (Nat.beq tag 29) (sm_t26 29 a b nx z L S G M) none) (cond (Nat.beq tag 30) (sm_t26 30 a b nx z L S G M) none)) (cond (Nat.ble tag 31) (cond (Nat.beq tag 31) (sm_t26 31 a b nx z L S G M) none) (cond (Nat.ble tag 32) (cond (Nat.beq tag 32) (sm_t32 a b nx z L S G M) none) (cond (Nat.beq tag 33) (sm_t33 a b nx z L S G M) none))))))) (cond (Nat.ble tag 51) (cond (Nat.ble tag 42) (cond (Nat.ble tag 38) (cond (Nat.ble tag 36) (cond (Nat.ble tag 34) (cond (Nat.beq tag 34) (sm_t34 a b nx z L S G M) none) (cond (Nat.beq tag 35) (sm_t35 a b nx z L S G M) none)) (cond (Nat.ble tag 37) (cond (Nat.beq tag 37) (sm_t37 a b nx z L S G M) none) (cond (Nat.beq tag 38) (sm_t38 a b nx z L S G M) none))) (cond (Nat.ble tag 40) (cond (Nat.ble tag 39) (cond (Nat.beq tag 39) (sm_t39 a b nx z L S G M) none) (cond (Nat.beq tag 40) (sm_t40 a b nx z L S G M) none)) (cond (Nat.ble tag 41) (cond (Nat.beq tag 41) (sm_t41 a b nx z L S G M) none) (cond (Nat.beq tag 42) (sm_t42 a b nx z L S G M) none)))) (cond (Nat.ble tag 46) (cond (Nat.ble tag 44) (cond (Nat.ble tag 43) (cond (Nat.beq tag 43) (sm_t43 a b nx z L S G M) none) (cond (Nat.beq tag 44) (sm_t44 a b nx z L S G M) none)) (cond (Nat.ble tag 45) (cond (Nat.beq tag 45) (sm_t45 a b nx z L S G M) none) (cond (Nat.beq tag 46) (sm_t46 a b nx z L S G M) none))) (cond (Nat.ble tag 48) (cond (Nat.ble tag 47) (cond (Nat.beq tag 47) (sm_t47 a b nx z L S G M) none) (cond (Nat.beq tag 48) (sm_t48 a b nx z L S G M) none)) (cond (Nat.ble tag 49) (cond (Nat.beq tag 49) (sm_t49 a b nx z L S G M) none) (cond (Nat.ble tag 50) (cond (Nat.beq tag 50) (sm_t50 a b nx z L S G M) none) (cond (Nat.beq tag 51) (sm_t51 a b nx z L S G M) none)))))) (cond (Nat.ble tag 63) (cond (Nat.ble tag 55) (cond (Nat.ble tag 53) (cond (Nat.ble tag 52) (cond (Nat.beq tag 52) (sm_t52 a b nx z L S G M) none) (cond (Nat.beq tag 53) (sm_t53 a b nx z L S G M) none)) (cond (Nat.ble tag 54) (cond (Nat.beq tag 54) (sm_t54 a b nx z L S G M) none) (cond (Nat.beq tag 55) (sm_t55 a b nx z L S G M) none))) (cond (Nat.ble tag 57) (cond (Nat.ble tag 56) (cond (Nat.beq tag 56) (sm_t56 a b nx z L S G M) none) (cond (Nat.beq tag 57) (sm_t57 a b nx z L S G M) none)) (cond (Nat.ble tag 61) (cond (Nat.beq tag 58) (sm_t58 a b nx z L S G M) none) (cond (Nat.ble tag 62) (cond (Nat.beq tag 62) (sm_t62 a b nx z L S G M) none) (cond (Nat.beq tag 63) (sm_t63 a b nx z L S G M) none))))) (cond (Nat.ble tag 67) (cond (Nat.ble tag 65) (cond (Nat.ble tag 64) (cond (Nat.beq tag 64) (sm_t64 a b nx z L S G M) none) (cond (Nat.beq tag 65) (sm_t65 a b nx z L S G M) none)) (cond (Nat.ble tag 66) (cond (Nat.beq tag 66) (sm_t66 a b nx z L S G M) none) (cond (Nat.beq tag 67) (sm_t67 a b nx z L S G M) none))) (cond (Nat.ble tag 69) (cond (Nat.ble tag 68) (cond (Nat.beq tag 68) (sm_t68 a b nx z L S G M) none) (cond (Nat.beq tag 69) (sm_t69 a b nx z L S G M) none)) (cond (Nat.ble tag 70) (cond (Nat.beq tag 70) (sm_t70 a b nx z L S G M) none) (cond (Nat.ble tag 71) (cond (Nat.beq tag 71) (sm_t71 a b nx z L S G M) none) (cond (Nat.beq tag 72) (sm_t72 a b nx z L S G M) none)))))))
def sm_nx (k pc : Nat) (L : sm_L) (S : sm_S) (G : sm_G) (M : sm_M) : sm_N := match sm_ins k pc with
  | (tag, a, b, nx, z) => sm_dis tag a b nx z L S G M
def sm_swt (x : Int32) : List (Int32 × Nat) → Nat → Nat
  | [], d => d
  | (c, t) :: r, d => if x = c then t else sm_swt x r d
def sm_push (r : Option sm_V) (S : sm_S) : sm_S := match r with
  | none => S
  | some v => v :: S
abbrev sm_A : Type := Option (Option sm_V × sm_G × sm_M)
def sm_F (rn : Nat → Nat → Nat → sm_L → sm_S → sm_G → sm_M → sm_A) (d k : Nat) (N : sm_N) (G : sm_G) (M : sm_M) : sm_A := match N with
  | none => none
  | some (.inl (pc', L', S', G', M')) => rn d k pc' L' S' G' M'
  | some (.inr (.inl (c, pc', L', S', G', M'))) => if c = true then rn d k pc' L' S' G' M' else none
  | some (.inr (.inr (.inl (c, p1, p2, L', S')))) => if c = true then rn d k p1 L' S' G M else rn d k p2 L' S' G M
  | some (.inr (.inr (.inr (.inl (x, t, e, L', S'))))) => rn d k (sm_swt x t e) L' S' G M
  | some (.inr (.inr (.inr (.inr (.inl (c, k', L0, pc', L', S')))))) => if c = true then (match d with
      | 0 => none
      | d' + 1 => match rn d' k' 0 L0 [] G M with
        | none => none
        | some (r, G', M') => rn (d' + 1) k pc' L' (sm_push r S') G' M') else none
  | some (.inr (.inr (.inr (.inr (.inr (c, r)))))) => if c = true then some (r, G, M) else none
/-- n instructions at most, calls d deep at most: the answer and what stands behind it -/
def sm_run : Nat → Nat → Nat → Nat → sm_L → sm_S → sm_G → sm_M → sm_A
  | 0, _, _, _, _, _, _, _ => none
  | n + 1, d, k, pc, L, S, G, M => sm_F (sm_run n) d k (sm_nx k pc L S G M) G M
abbrev sm_Q : Type := Option sm_V → sm_G → sm_M → Prop
/-- it comes to an end, and Q holds there -/
def sm_W (d k pc : Nat) (L : sm_L) (S : sm_S) (G : sm_G) (M : sm_M) (Q : sm_Q) : Prop := ∃ n r G' M', sm_run n d k pc L S G M = some (r, G', M') ∧ Q r G' M'
/-- one of two, by a test -/
def sm_Br (c : Bool) (A B : Prop) : Prop := match c with
  | true => A
  | false => B
theorem sm_Br_iff (c : Bool) (A B : Prop) : sm_Br c A B ↔ (c = true → A) ∧ (¬ c = true → B) := by cases c <;> simp [sm_Br]
theorem sm_Br_t (A B : Prop) : sm_Br true A B = A := rfl
theorem sm_Br_f (A B : Prop) : sm_Br false A B = B := rfl
theorem sm_Br_d (p : Prop) [Decidable p] (A B : Prop) : sm_Br (decide p) A B = if p then A else B := by
  by_cases h : p <;> simp [sm_Br, h]
theorem sm_Br_b (c : Bool) (A B : Prop) : sm_Br c A B = if c = true then A else B := by cases c <;> simp [sm_Br]
def sm_swP (x : Int32) (K : Nat → Prop) : List (Int32 × Nat) → Nat → Prop
  | [], d => K d
  | (c, t) :: r, d => sm_Br (decide (x = c)) (K t) (sm_swP x K r d)
def sm_Ck (c : Bool) (P : Prop) : Prop := match c with
  | true => P
  | false => False
theorem sm_Ck_iff (c : Bool) (P : Prop) : sm_Ck c P ↔ (c = true ∧ P) := by cases c <;> simp [sm_Ck]
theorem sm_Ck_t (P : Prop) : sm_Ck true P = P := rfl
def sm_P (d k : Nat) (N : sm_N) (G : sm_G) (M : sm_M) (K : Nat → sm_L → sm_S → sm_G → sm_M → Prop) (Q : sm_Q) : Prop := match N with
  | none => False
  | some (.inl (pc', L', S', G', M')) => K pc' L' S' G' M'
  | some (.inr (.inl (c, pc', L', S', G', M'))) => sm_Ck c (K pc' L' S' G' M')
  | some (.inr (.inr (.inl (c, p1, p2, L', S')))) => sm_Br c (K p1 L' S' G M) (K p2 L' S' G M)
  | some (.inr (.inr (.inr (.inl (x, t, e, L', S'))))) => sm_swP x (fun pc' => K pc' L' S' G M) t e
  | some (.inr (.inr (.inr (.inr (.inl (c, k', L0, pc', L', S')))))) => sm_Ck c (match d with
      | 0 => False
      | d' + 1 => sm_W d' k' 0 L0 [] G M (fun r G' M' => sm_W (d' + 1) k pc' L' (sm_push r S') G' M' Q))
  | some (.inr (.inr (.inr (.inr (.inr (c, r)))))) => sm_Ck c (Q r G M)
/-- n instructions on, then on from there -/
def sm_I : Nat → Nat → Nat → sm_Q → Nat → sm_L → sm_S → sm_G → sm_M → Prop
  | 0, d, k, Q, pc, L, S, G, M => sm_W d k pc L S G M Q
  | n + 1, d, k, Q, pc, L, S, G, M => sm_P d k (sm_nx k pc L S G M) G M (sm_I n d k Q) Q
theorem sm_F_mono {r1 r2 : Nat → Nat → Nat → sm_L → sm_S → sm_G → sm_M → sm_A} (h : ∀ d k pc L S G M x, r1 d k pc L S G M = some x → r2 d k pc L S G M = some x) {d k : Nat} {N : sm_N} {G : sm_G} {M : sm_M} {x : Option sm_V × sm_G × sm_M} (hx : sm_F r1 d k N G M = some x) : sm_F r2 d k N G M = some x := by
  rcases N with _ | ⟨pc', L', S', G', M'⟩ | ⟨c, pc', L', S', G', M'⟩ | ⟨c, p1, p2, L', S'⟩ | ⟨y, t, e, L', S'⟩ | ⟨c, k', L0, pc', L', S'⟩ | ⟨c, r⟩
  · simp [sm_F] at hx
  · exact h _ _ _ _ _ _ _ _ hx
  · cases c
    · simp [sm_F] at hx
    · exact h _ _ _ _ _ _ _ _ (by simpa [sm_F] using hx)
  · cases c
    · exact h _ _ _ _ _ _ _ _ (by simpa [sm_F] using hx)
    · exact h _ _ _ _ _ _ _ _ (by simpa [sm_F] using hx)
  · exact h _ _ _ _ _ _ _ _ hx
  · cases c
    · simp [sm_F] at hx
    · cases d with
      | zero => simp [sm_F] at hx
      | succ d' =>
        simp only [sm_F, if_true] at hx ⊢
        cases hr : r1 d' k' 0 L0 [] G M with
        | none => rw [hr] at hx; simp at hx
        | some q =>
          rw [hr] at hx
          rw [h _ _ _ _ _ _ _ _ hr]
          exact h _ _ _ _ _ _ _ _ hx
  · exact hx
theorem sm_run_s (n : Nat) : ∀ (d k pc : Nat) (L : sm_L) (S : sm_S) (G : sm_G) (M : sm_M) (x : Option sm_V × sm_G × sm_M), sm_run n d k pc L S G M = some x → sm_run (n + 1) d k pc L S G M = some x := by
  induction n with
  | zero => intro d k pc L S G M x h; simp [sm_run] at h
  | succ n ih => intro d k pc L S G M x h; exact sm_F_mono ih h
theorem sm_run_le {n m : Nat} (hnm : n ≤ m) {d k pc : Nat} {L : sm_L} {S : sm_S} {G : sm_G} {M : sm_M} {x : Option sm_V × sm_G × sm_M} (h : sm_run n d k pc L S G M = some x) : sm_run m d k pc L S G M = some x := by
  induction hnm with
  | refl => exact h
  | step _ ih => exact sm_run_s _ _ _ _ _ _ _ _ _ ih
theorem sm_swt_P (x : Int32) (K : Nat → Prop) (t : List (Int32 × Nat)) (e : Nat) : sm_swP x K t e ↔ K (sm_swt x t e) := by
  induction t with
  | nil => exact Iff.rfl
  | cons q r ih =>
    obtain ⟨c, u⟩ := q
    by_cases hx : x = c
    · simp [sm_swP, sm_swt, sm_Br, hx]
    · simp [sm_swP, sm_swt, sm_Br, hx, ih]
theorem sm_W_iff (d k pc : Nat) (L : sm_L) (S : sm_S) (G : sm_G) (M : sm_M) (Q : sm_Q) : sm_W d k pc L S G M Q ↔ sm_P d k (sm_nx k pc L S G M) G M (fun pc' L' S' G' M' => sm_W d k pc' L' S' G' M' Q) Q := by
  have key : sm_W d k pc L S G M Q ↔ ∃ n r G' M', sm_F (sm_run n) d k (sm_nx k pc L S G M) G M = some (r, G', M') ∧ Q r G' M' := by
    constructor
    · rintro ⟨n, r, G', M', h, hq⟩
      cases n with
      | zero => simp [sm_run] at h
      | succ n => exact ⟨n, r, G', M', h, hq⟩
    · rintro ⟨n, r, G', M', h, hq⟩
      exact ⟨n + 1, r, G', M', h, hq⟩
  rw [key]
  generalize sm_nx k pc L S G M = N
  rcases N with _ | ⟨pc', L', S', G', M'⟩ | ⟨c, pc', L', S', G', M'⟩ | ⟨c, p1, p2, L', S'⟩ | ⟨y, t, e, L', S'⟩ | ⟨c, k', L0, pc', L', S'⟩ | ⟨c, r⟩
  · simp [sm_F, sm_P, sm_Ck]
  · exact Iff.rfl
  · cases c
    · simp [sm_F, sm_P, sm_Ck]
    · simp [sm_F, sm_P, sm_Ck, sm_Br, sm_W]
  · cases c
    · simp [sm_F, sm_P, sm_Ck, sm_Br, sm_W]
    · simp [sm_F, sm_P, sm_Ck, sm_Br, sm_W]
  · simp only [sm_P, sm_swt_P]
    exact Iff.rfl
  · cases c
    · simp [sm_F, sm_P, sm_Ck]
    · cases d with
      | zero => simp [sm_F, sm_P, sm_Ck]
      | succ d' =>
        simp only [sm_F, sm_P, sm_Ck, if_true]
        constructor
        · rintro ⟨n, r, G1, M1, h, hq⟩
          cases hr : sm_run n d' k' 0 L0 [] G M with
          | none => rw [hr] at h; simp at h
          | some q =>
            obtain ⟨r1, G2, M2⟩ := q
            rw [hr] at h
            exact ⟨n, r1, G2, M2, hr, n, r, G1, M1, h, hq⟩
        · rintro ⟨n, r1, G2, M2, hr, m, r, G1, M1, h, hq⟩
          refine ⟨max n m, r, G1, M1, ?_, hq⟩
          rw [sm_run_le (Nat.le_max_left n m) hr]
          exact sm_run_le (Nat.le_max_right n m) h
  · cases c
    · simp [sm_F, sm_P, sm_Ck]
    · simp only [sm_F, sm_P, sm_Ck, if_true]
      constructor
      · rintro ⟨_, r1, G1, M1, h, hq⟩
        simp only [Option.some.injEq, Prod.mk.injEq] at h
        obtain ⟨rfl, rfl, rfl⟩ := h
        exact hq
      · intro hq
        exact ⟨0, _, _, _, rfl, hq⟩
theorem sm_P_congr {d k : Nat} {N : sm_N} {G : sm_G} {M : sm_M} {K1 K2 : Nat → sm_L → sm_S → sm_G → sm_M → Prop} {Q : sm_Q} (h : ∀ pc L S G M, K1 pc L S G M ↔ K2 pc L S G M) : sm_P d k N G M K1 Q ↔ sm_P d k N G M K2 Q := by
  rcases N with _ | ⟨pc', L', S', G', M'⟩ | ⟨c, pc', L', S', G', M'⟩ | ⟨c, p1, p2, L', S'⟩ | ⟨y, t, e, L', S'⟩ | ⟨c, k', L0, pc', L', S'⟩ | ⟨c, r⟩
  · exact Iff.rfl
  · exact h _ _ _ _ _
  · simp only [sm_P, sm_Ck_iff]
    exact and_congr Iff.rfl (h _ _ _ _ _)
  · simp only [sm_P, sm_Br_iff]
    exact and_congr (imp_congr Iff.rfl (h _ _ _ _ _)) (imp_congr Iff.rfl (h _ _ _ _ _))
  · simp only [sm_P, sm_swt_P]
    exact h _ _ _ _ _
  · exact Iff.rfl
  · exact Iff.rfl
theorem sm_I_iff (n : Nat) : ∀ (d k : Nat) (Q : sm_Q) (pc : Nat) (L : sm_L) (S : sm_S) (G : sm_G) (M : sm_M), sm_W d k pc L S G M Q ↔ sm_I n d k Q pc L S G M := by
  induction n with
  | zero => intros; exact Iff.rfl
  | succ n ih =>
    intro d k Q pc L S G M
    rw [sm_W_iff]
    exact sm_P_congr (fun pc L S G M => ih d k Q pc L S G M)
theorem sm_I_eq (n : Nat) (d k : Nat) (Q : sm_Q) (pc : Nat) (L : sm_L) (S : sm_S) (G : sm_G) (M : sm_M) : sm_W d k pc L S G M Q = sm_I n d k Q pc L S G M := propext (sm_I_iff n d k Q pc L S G M)
/-- one outcome alone -/
theorem sm_W_det {d k pc : Nat} {L : sm_L} {S : sm_S} {G : sm_G} {M : sm_M} {r : Option sm_V} {G' : sm_G} {M' : sm_M} (h : sm_W d k pc L S G M (fun r1 G1 M1 => r1 = r ∧ G1 = G' ∧ M1 = M')) (Q : sm_Q) : sm_W d k pc L S G M Q = Q r G' M' := by
  obtain ⟨n, r1, G1, M1, hr, rfl, rfl, rfl⟩ := h
  refine propext ⟨?_, fun hq => ⟨n, _, _, _, hr, hq⟩⟩
  rintro ⟨m, r2, G2, M2, hr2, hq⟩
  have e := (sm_run_le (Nat.le_max_left n m) hr).symm.trans (sm_run_le (Nat.le_max_right n m) hr2)
  simp only [Option.some.injEq, Prod.mk.injEq] at e
  obtain ⟨rfl, rfl, rfl⟩ := e
  exact hq
theorem sm_W_mono {d k pc : Nat} {L : sm_L} {S : sm_S} {G : sm_G} {M : sm_M} {Q1 Q2 : sm_Q} (h : ∀ r G M, Q1 r G M → Q2 r G M) (hw : sm_W d k pc L S G M Q1) : sm_W d k pc L S G M Q2 := by
  obtain ⟨n, r, G', M', hr, hq⟩ := hw
  exact ⟨n, r, G', M', hr, h _ _ _ hq⟩
theorem sm_push_n (S : sm_S) : sm_push none S = S := rfl
theorem sm_push_s (v : sm_V) (S : sm_S) : sm_push (some v) S = v :: S := rfl
