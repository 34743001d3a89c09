/-! the instruction table agrees with decode -/
def ci_v (q idx : Nat) (z : Int32) : Bool := Nat.blt idx 2048 && (match sm_vl (q + idx) with
  | (v, p) => decide (v = z) && !Nat.beq p 99999)
def ci_f (q idx a b : Nat) : Bool := Nat.blt idx 2048 && (match sm_fl (q + idx) with
  | (c, k, _) => Nat.beq c a && Nat.beq k b && !Nat.beq c 99)
def ci_k (q idx a : Nat) : Bool := Nat.blt idx 2048 && (match sm_kl (q + idx) with
  | (y, _, _) => Nat.beq y a && !Nat.beq y 999 && !Nat.beq y 0)
def ci_fin (k a b : Nat) : Bool := !(sm_ct a b).2.2.2 || (decide ((sm_my k).name = "<init>") && decide ((sm_ct a b).1 = sm_on (sm_oc k)))
def ci_ref (t : FieldType) : Bool := match t with
  | .object _ => true
  | .array _ => true
  | _ => false
def ci_at (t : ArrayType) : Nat := match t with
  | .boolean => 102
  | .byte => 101
  | .int => 100
  | _ => 0
def ci_cn (c : Jvm.ClassFile.Cond) : Nat := match c with
  | .eq => 0
  | .ne => 1
  | .lt => 2
  | .ge => 3
  | .gt => 4
  | .le => 5
def ci_sw (pc : Nat) (lo : Int) : List Int → List (Int32 × Nat) → Bool
  | [], [] => true
  | o :: os, (c, t) :: r => decide (Int32.ofInt lo = c) && decide (c.toInt = lo) && decide ((pc : Int) + o = (t : Int)) && ci_sw pc (lo + 1) os r
  | _, _ => false
def ci_lk (pc : Nat) : List (Int × Int) → List (Int32 × Nat) → Bool
  | [], [] => true
  | (v, o) :: os, (c, t) :: r => decide (c.toInt = v) && decide ((pc : Int) + o = (t : Int)) && ci_lk pc os r
  | _, _ => false
def ci_i (k q pc tag a b len : Nat) (z : Int32) (i : Instr) : Bool := match i with
  | .aconst_null => Nat.beq tag 57 && Nat.beq len 1
  | .iconst n => Nat.beq tag 0 && decide (Int32.ofInt n = z) && Nat.beq len 1
  | .bipush n => Nat.beq tag 0 && decide ((Int8.ofInt n).toInt32 = z) && Nat.beq len 2
  | .sipush n => Nat.beq tag 0 && decide ((Int16.ofInt n).toInt32 = z) && Nat.beq len 3
  | .lconst n => Nat.beq tag 71 && decide (Int64.ofNat (n : Nat) = z.toInt64) && Nat.beq len 1
  | .ldc idx => Nat.beq len 2 && ((Nat.beq tag 0 && ci_v q idx z) || (Nat.beq tag 58 && Nat.blt idx 2048 && Nat.beq (sm_sl (q + idx)).1 a && Nat.ble 5 a && Nat.ble a 7))
  | .ldc_w idx => Nat.beq len 3 && Nat.beq tag 0 && ci_v q idx z
  | .iload n => Nat.beq tag 1 && Nat.beq n a && Nat.beq len 2
  | .iload_n n => Nat.beq tag 1 && Nat.beq n.val a && Nat.beq len 1
  | .aload n => Nat.beq tag 2 && Nat.beq n a && Nat.beq len 2
  | .aload_n n => Nat.beq tag 2 && Nat.beq n.val a && Nat.beq len 1
  | .lload n => Nat.beq tag 69 && Nat.beq n a && Nat.beq len 2
  | .lload_n n => Nat.beq tag 69 && Nat.beq n.val a && Nat.beq len 1
  | .istore n => Nat.beq tag 3 && Nat.beq n a && Nat.beq len 2 && Nat.blt a (sm_ml k)
  | .istore_n n => Nat.beq tag 3 && Nat.beq n.val a && Nat.beq len 1 && Nat.blt a (sm_ml k)
  | .astore n => Nat.beq tag 4 && Nat.beq n a && Nat.beq len 2 && Nat.blt a (sm_ml k)
  | .astore_n n => Nat.beq tag 4 && Nat.beq n.val a && Nat.beq len 1 && Nat.blt a (sm_ml k)
  | .lstore n => Nat.beq tag 70 && Nat.beq n a && Nat.beq len 2 && Nat.blt (a + 1) (sm_ml k)
  | .iinc n c => Nat.beq tag 5 && Nat.beq n a && decide (Int32.ofInt c = z) && Nat.beq len 3 && Nat.blt a (sm_ml k)
  | .iadd => Nat.beq tag 6 && Nat.beq len 1
  | .isub => Nat.beq tag 7 && Nat.beq len 1
  | .imul => Nat.beq tag 8 && Nat.beq len 1
  | .idiv => Nat.beq tag 9 && Nat.beq len 1
  | .irem => Nat.beq tag 10 && Nat.beq len 1
  | .ineg => Nat.beq tag 11 && Nat.beq len 1
  | .ishl => Nat.beq tag 12 && Nat.beq len 1
  | .ishr => Nat.beq tag 13 && Nat.beq len 1
  | .iushr => Nat.beq tag 14 && Nat.beq len 1
  | .iand => Nat.beq tag 15 && Nat.beq len 1
  | .ior => Nat.beq tag 16 && Nat.beq len 1
  | .ixor => Nat.beq tag 17 && Nat.beq len 1
  | .i2b => Nat.beq tag 18 && Nat.beq len 1
  | .i2s => Nat.beq tag 19 && Nat.beq len 1
  | .ifCond c off => Nat.beq tag (20 + ci_cn c) && decide ((pc : Int) + off = (b : Int)) && Nat.beq len 3
  | .if_icmp c off => Nat.beq tag (26 + ci_cn c) && decide ((pc : Int) + off = (b : Int)) && Nat.beq len 3
  | .if_acmp .eq off => Nat.beq tag 35 && decide ((pc : Int) + off = (b : Int)) && Nat.beq len 3
  | .goto off => Nat.beq tag 32 && decide ((pc : Int) + off = (b : Int)) && Nat.beq len 3
  | .ifnull off => Nat.beq tag 33 && decide ((pc : Int) + off = (b : Int)) && Nat.beq len 3
  | .ifnonnull off => Nat.beq tag 34 && decide ((pc : Int) + off = (b : Int)) && Nat.beq len 3
  | .tableswitch d lo hi offs => Nat.beq tag 37 && decide ((pc : Int) + d = (sm_sd a : Int)) && ci_sw pc lo offs.toList (sm_sw a) && decide (hi + 1 = lo + (offs.size : Int))
  | .lookupswitch d ps => Nat.beq tag 37 && decide ((pc : Int) + d = (sm_sd a : Int)) && ci_lk pc ps.toList (sm_sw a) && (ps.toList.zip (ps.toList.drop 1)).all (fun (a, next) => a.1 < next.1)
  | .getfield idx => ci_f q idx a b && ((Nat.beq tag 38 && !sm_tr a b) || (Nat.beq tag 39 && sm_tr a b)) && Nat.beq len 3
  | .putfield idx => ci_f q idx a b && ((Nat.beq tag 40 && !sm_tr a b && decide (sm_ty a b = .int)) || (Nat.beq tag 41 && sm_tr a b && ci_ref (sm_ty a b))) && Nat.beq len 3 && ci_fin k a b
  | .iaload => Nat.beq tag 42 && Nat.beq len 1
  | .aaload => Nat.beq tag 43 && Nat.beq len 1
  | .baload => Nat.beq tag 44 && Nat.beq len 1
  | .iastore => Nat.beq tag 45 && Nat.beq len 1
  | .bastore => Nat.beq tag 46 && Nat.beq len 1
  | .aastore => Nat.beq tag 47 && Nat.beq len 1
  | .arraylength => Nat.beq tag 48 && Nat.beq len 1
  | .new idx => Nat.beq tag 49 && Nat.blt idx 2048 && Nat.beq (sm_cl (q + idx)).1 (sm_fc a) && Nat.blt (sm_fc a) 13 && Nat.beq len 3
  | .newarray t => Nat.beq tag 50 && Nat.beq (ci_at t) (sm_fc a) && Nat.ble 100 (sm_fc a) && Nat.beq len 2 && Nat.ble (sm_ln a) 5000
  | .anewarray idx => Nat.beq tag 50 && Nat.blt idx 2048 && Nat.beq (110 + (sm_cl (q + idx)).1) (sm_fc a) && Nat.blt (sm_cl (q + idx)).1 13 && Nat.beq len 3 && Nat.ble (sm_ln a) 5000 && sm_wt (sm_ap (sm_fc a)) (.arrayOver (.object (sm_on (sm_cl (q + idx)).1)))
  | .dup => Nat.beq tag 51 && Nat.beq len 1
  | .dup2 => Nat.beq tag 52 && Nat.beq len 1
  | .invokevirtual idx => Nat.beq len 3 && ((Nat.beq tag 53 && ci_k q idx a && Nat.beq b (sm_na a + 1) && !sm_st a && !decide ((sm_my a).name = "<init>")) || (Nat.beq tag 62 && Nat.blt idx 2048 && !Nat.beq (sm_ll (q + idx)) 0) || (Nat.beq tag 63 && Nat.blt idx 2048 && !Nat.beq (sm_al (q + idx)) 0))
  | .invokespecial idx => Nat.beq len 3 && ((Nat.beq tag 53 && ci_k q idx a && Nat.beq b (sm_na a + 1) && !sm_st a && decide ((sm_my a).name = "<init>") && decide (sm_mr a = none)) || (Nat.beq tag 72 && Nat.blt idx 2048 && !Nat.beq (sm_ol (q + idx)) 0))
  | .invokestatic idx => Nat.beq len 3 && ((Nat.beq tag 53 && ci_k q idx a && Nat.beq b (sm_na a) && sm_st a) || (Nat.beq tag 64 && Nat.blt idx 2048 && !Nat.beq (sm_yl (q + idx)) 0))
  | .getstatic idx => Nat.beq tag 58 && Nat.blt idx 2048 && Nat.beq (sm_zl (q + idx)).1 a && Nat.ble 1 a && Nat.ble a 4 && Nat.beq len 3
  | .ireturn => Nat.beq tag 54 && Nat.beq len 1 && ((Nat.beq a 0 && decide (sm_mr k = some .int)) || (Nat.beq a 1 && decide (sm_mr k = some .boolean)))
  | .areturn => Nat.beq tag 55 && Nat.beq len 1 && (match sm_mr k with | some t => ci_ref t | none => false)
  | .return_ => Nat.beq tag 56 && Nat.beq len 1 && decide (sm_mr k = none)
  | .i2l => Nat.beq tag 65 && Nat.beq len 1
  | .l2i => Nat.beq tag 66 && Nat.beq len 1
  | .ladd => Nat.beq tag 67 && Nat.beq len 1
  | .lcmp => Nat.beq tag 68 && Nat.beq len 1
  | _ => false
def ci_ok (k pc : Nat) : Bool := match sm_ins k pc with
  | (tag, a, b, nx, z) => Nat.beq tag 99 || (match decode (sm_mb k) pc with
    | .ok (i, len) => Nat.beq nx (pc + len) && ci_i k (sm_oc k * 2048) pc tag a b len z i
    | .error _ => false)
def sm_sz : Nat → Nat := fun k => cond (Nat.ble k 137) (cond (Nat.ble k 68) (cond (Nat.ble k 33) (cond (Nat.ble k 16) (cond (Nat.ble k 7) (cond (Nat.ble k 3) (cond (Nat.ble k 1) (cond (Nat.ble k 0) (cond (Nat.beq k 0) 1879 0) (cond (Nat.beq k 1) 224 0)) (cond (Nat.ble k 2) (cond (Nat.beq k 2) 73 0) (cond (Nat.beq k 3) 60 0))) (cond (Nat.ble k 5) (cond (Nat.ble k 4) (cond (Nat.beq k 4) 14 0) (cond (Nat.beq k 5) 37 0)) (cond (Nat.ble k 6) (cond (Nat.beq k 6) 104 0) (cond (Nat.beq k 7) 5 0)))) (cond (Nat.ble k 11) (cond (Nat.ble k 9) (cond (Nat.ble k 8) (cond (Nat.beq k 8) 30 0) (cond (Nat.beq k 9) 13 0)) (cond (Nat.ble k 10) (cond (Nat.beq k 10) 26 0) (cond (Nat.beq k 11) 18 0))) (cond (Nat.ble k 13) (cond (Nat.ble k 12) (cond (Nat.beq k 12) 26 0) (cond (Nat.beq k 13) 18 0)) (cond (Nat.ble k 14) (cond (Nat.beq k 14) 42 0) (cond (Nat.ble k 15) (cond (Nat.beq k 15) 44 0) (cond (Nat.beq k 16) 58 0)))))) (cond (Nat.ble k 24) (cond (Nat.ble k 20) (cond (Nat.ble k 18) (cond (Nat.ble k 17) (cond (Nat.beq k 17) 59 0) (cond (Nat.beq k 18) 15 0)) (cond (Nat.ble k 19) (cond (Nat.beq k 19) 74 0) (cond (Nat.beq k 20) 44 0))) (cond (Nat.ble k 22) (cond (Nat.ble k 21) (cond (Nat.beq k 21) 16 0) (cond (Nat.beq k 22) 27 0)) (cond (Nat.ble k 23) (cond (Nat.beq k 23) 17 0) (cond (Nat.beq k 24) 75 0)))) (cond (Nat.ble k 28) (cond (Nat.ble k 26) (cond (Nat.ble k 25) (cond (Nat.beq k 25) 45 0) (cond (Nat.beq k 26) 11 0)) (cond (Nat.ble k 27) (cond (Nat.beq k 27) 44 0) (cond (Nat.beq k 28) 88 0))) (cond (Nat.ble k 30) (cond (Nat.ble k 29) (cond (Nat.beq k 29) 29 0) (cond (Nat.beq k 30) 19 0)) (cond (Nat.ble k 31) (cond (Nat.beq k 31) 80 0) (cond (Nat.ble k 32) (cond (Nat.beq k 32) 169 0) (cond (Nat.beq k 33) 21 0))))))) (cond (Nat.ble k 50) (cond (Nat.ble k 41) (cond (Nat.ble k 37) (cond (Nat.ble k 35) (cond (Nat.ble k 34) (cond (Nat.beq k 34) 106 0) (cond (Nat.beq k 35) 24 0)) (cond (Nat.ble k 36) (cond (Nat.beq k 36) 23 0) (cond (Nat.beq k 37) 99 0))) (cond (Nat.ble k 39) (cond (Nat.ble k 38) (cond (Nat.beq k 38) 18 0) (cond (Nat.beq k 39) 76 0)) (cond (Nat.ble k 40) (cond (Nat.beq k 40) 21 0) (cond (Nat.beq k 41) 94 0)))) (cond (Nat.ble k 45) (cond (Nat.ble k 43) (cond (Nat.ble k 42) (cond (Nat.beq k 42) 29 0) (cond (Nat.beq k 43) 13 0)) (cond (Nat.ble k 44) (cond (Nat.beq k 44) 14 0) (cond (Nat.beq k 45) 66 0))) (cond (Nat.ble k 47) (cond (Nat.ble k 46) (cond (Nat.beq k 46) 42 0) (cond (Nat.beq k 47) 69 0)) (cond (Nat.ble k 48) (cond (Nat.beq k 48) 73 0) (cond (Nat.ble k 49) (cond (Nat.beq k 49) 28 0) (cond (Nat.beq k 50) 11 0)))))) (cond (Nat.ble k 59) (cond (Nat.ble k 54) (cond (Nat.ble k 52) (cond (Nat.ble k 51) (cond (Nat.beq k 51) 74 0) (cond (Nat.beq k 52) 34 0)) (cond (Nat.ble k 53) (cond (Nat.beq k 53) 29 0) (cond (Nat.beq k 54) 19 0))) (cond (Nat.ble k 56) (cond (Nat.ble k 55) (cond (Nat.beq k 55) 96 0) (cond (Nat.beq k 56) 89 0)) (cond (Nat.ble k 57) (cond (Nat.beq k 57) 22 0) (cond (Nat.ble k 58) (cond (Nat.beq k 58) 71 0) (cond (Nat.beq k 59) 19 0))))) (cond (Nat.ble k 63) (cond (Nat.ble k 61) (cond (Nat.ble k 60) (cond (Nat.beq k 60) 17 0) (cond (Nat.beq k 61) 77 0)) (cond (Nat.ble k 62) (cond (Nat.beq k 62) 61 0) (cond (Nat.beq k 63) 58 0))) (cond (Nat.ble k 65) (cond (Nat.ble k 64) (cond (Nat.beq k 64) 33 0) (cond (Nat.beq k 65) 41 0)) (cond (Nat.ble k 66) (cond (Nat.beq k 66) 34 0) (cond (Nat.ble k 67) (cond (Nat.beq k 67) 22 0) (cond (Nat.beq k 68) 75 0)))))))) (cond (Nat.ble k 102) (cond (Nat.ble k 85) (cond (Nat.ble k 76) (cond (Nat.ble k 72) (cond (Nat.ble k 70) (cond (Nat.ble k 69) (cond (Nat.beq k 69) 32 0) (cond (Nat.beq k 70) 15 0)) (cond (Nat.ble k 71) (cond (Nat.beq k 71) 80 0) (cond (Nat.beq k 72) 74 0))) (cond (Nat.ble k 74) (cond (Nat.ble k 73) (cond (Nat.beq k 73) 65 0) (cond (Nat.beq k 74) 102 0)) (cond (Nat.ble k 75) (cond (Nat.beq k 75) 65 0) (cond (Nat.beq k 76) 124 0)))) (cond (Nat.ble k 80) (cond (Nat.ble k 78) (cond (Nat.ble k 77) (cond (Nat.beq k 77) 49 0) (cond (Nat.beq k 78) 139 0)) (cond (Nat.ble k 79) (cond (Nat.beq k 79) 37 0) (cond (Nat.beq k 80) 109 0))) (cond (Nat.ble k 82) (cond (Nat.ble k 81) (cond (Nat.beq k 81) 79 0) (cond (Nat.beq k 82) 106 0)) (cond (Nat.ble k 83) (cond (Nat.beq k 83) 21 0) (cond (Nat.ble k 84) (cond (Nat.beq k 84) 64 0) (cond (Nat.beq k 85) 50 0)))))) (cond (Nat.ble k 93) (cond (Nat.ble k 89) (cond (Nat.ble k 87) (cond (Nat.ble k 86) (cond (Nat.beq k 86) 20 0) (cond (Nat.beq k 87) 75 0)) (cond (Nat.ble k 88) (cond (Nat.beq k 88) 30 0) (cond (Nat.beq k 89) 11 0))) (cond (Nat.ble k 91) (cond (Nat.ble k 90) (cond (Nat.beq k 90) 107 0) (cond (Nat.beq k 91) 30 0)) (cond (Nat.ble k 92) (cond (Nat.beq k 92) 22 0) (cond (Nat.beq k 93) 42 0)))) (cond (Nat.ble k 97) (cond (Nat.ble k 95) (cond (Nat.ble k 94) (cond (Nat.beq k 94) 29 0) (cond (Nat.beq k 95) 107 0)) (cond (Nat.ble k 96) (cond (Nat.beq k 96) 15 0) (cond (Nat.beq k 97) 34 0))) (cond (Nat.ble k 99) (cond (Nat.ble k 98) (cond (Nat.beq k 98) 98 0) (cond (Nat.beq k 99) 61 0)) (cond (Nat.ble k 100) (cond (Nat.beq k 100) 53 0) (cond (Nat.ble k 101) (cond (Nat.beq k 101) 60 0) (cond (Nat.beq k 102) 56 0))))))) (cond (Nat.ble k 119) (cond (Nat.ble k 110) (cond (Nat.ble k 106) (cond (Nat.ble k 104) (cond (Nat.ble k 103) (cond (Nat.beq k 103) 105 0) (cond (Nat.beq k 104) 68 0)) (cond (Nat.ble k 105) (cond (Nat.beq k 105) 70 0) (cond (Nat.beq k 106) 68 0))) (cond (Nat.ble k 108) (cond (Nat.ble k 107) (cond (Nat.beq k 107) 20 0) (cond (Nat.beq k 108) 29 0)) (cond (Nat.ble k 109) (cond (Nat.beq k 109) 49 0) (cond (Nat.beq k 110) 19 0)))) (cond (Nat.ble k 114) (cond (Nat.ble k 112) (cond (Nat.ble k 111) (cond (Nat.beq k 111) 26 0) (cond (Nat.beq k 112) 148 0)) (cond (Nat.ble k 113) (cond (Nat.beq k 113) 71 0) (cond (Nat.beq k 114) 10 0))) (cond (Nat.ble k 116) (cond (Nat.ble k 115) (cond (Nat.beq k 115) 125 0) (cond (Nat.beq k 116) 12 0)) (cond (Nat.ble k 117) (cond (Nat.beq k 117) 97 0) (cond (Nat.ble k 118) (cond (Nat.beq k 118) 71 0) (cond (Nat.beq k 119) 11 0)))))) (cond (Nat.ble k 128) (cond (Nat.ble k 123) (cond (Nat.ble k 121) (cond (Nat.ble k 120) (cond (Nat.beq k 120) 78 0) (cond (Nat.beq k 121) 29 0)) (cond (Nat.ble k 122) (cond (Nat.beq k 122) 43 0) (cond (Nat.beq k 123) 40 0))) (cond (Nat.ble k 125) (cond (Nat.ble k 124) (cond (Nat.beq k 124) 47 0) (cond (Nat.beq k 125) 76 0)) (cond (Nat.ble k 126) (cond (Nat.beq k 126) 90 0) (cond (Nat.ble k 127) (cond (Nat.beq k 127) 22 0) (cond (Nat.beq k 128) 22 0))))) (cond (Nat.ble k 132) (cond (Nat.ble k 130) (cond (Nat.ble k 129) (cond (Nat.beq k 129) 127 0) (cond (Nat.beq k 130) 84 0)) (cond (Nat.ble k 131) (cond (Nat.beq k 131) 12 0) (cond (Nat.beq k 132) 81 0))) (cond (Nat.ble k 134) (cond (Nat.ble k 133) (cond (Nat.beq k 133) 46 0) (cond (Nat.beq k 134) 40 0)) (cond (Nat.ble k 135) (cond (Nat.beq k 135) 140 0) (cond (Nat.ble k 136) (cond (Nat.beq k 136) 39 0) (cond (Nat.beq k 137) 70 0))))))))) (cond (Nat.ble k 206) (cond (Nat.ble k 171) (cond (Nat.ble k 154) (cond (Nat.ble k 145) (cond (Nat.ble k 141) (cond (Nat.ble k 139) (cond (Nat.ble k 138) (cond (Nat.beq k 138) 27 0) (cond (Nat.beq k 139) 42 0)) (cond (Nat.ble k 140) (cond (Nat.beq k 140) 22 0) (cond (Nat.beq k 141) 18 0))) (cond (Nat.ble k 143) (cond (Nat.ble k 142) (cond (Nat.beq k 142) 32 0) (cond (Nat.beq k 143) 59 0)) (cond (Nat.ble k 144) (cond (Nat.beq k 144) 108 0) (cond (Nat.beq k 145) 88 0)))) (cond (Nat.ble k 149) (cond (Nat.ble k 147) (cond (Nat.ble k 146) (cond (Nat.beq k 146) 18 0) (cond (Nat.beq k 147) 78 0)) (cond (Nat.ble k 148) (cond (Nat.beq k 148) 106 0) (cond (Nat.beq k 149) 60 0))) (cond (Nat.ble k 151) (cond (Nat.ble k 150) (cond (Nat.beq k 150) 107 0) (cond (Nat.beq k 151) 107 0)) (cond (Nat.ble k 152) (cond (Nat.beq k 152) 9 0) (cond (Nat.ble k 153) (cond (Nat.beq k 153) 29 0) (cond (Nat.beq k 154) 47 0)))))) (cond (Nat.ble k 162) (cond (Nat.ble k 158) (cond (Nat.ble k 156) (cond (Nat.ble k 155) (cond (Nat.beq k 155) 39 0) (cond (Nat.beq k 156) 145 0)) (cond (Nat.ble k 157) (cond (Nat.beq k 157) 66 0) (cond (Nat.beq k 158) 32 0))) (cond (Nat.ble k 160) (cond (Nat.ble k 159) (cond (Nat.beq k 159) 73 0) (cond (Nat.beq k 160) 48 0)) (cond (Nat.ble k 161) (cond (Nat.beq k 161) 36 0) (cond (Nat.beq k 162) 56 0)))) (cond (Nat.ble k 166) (cond (Nat.ble k 164) (cond (Nat.ble k 163) (cond (Nat.beq k 163) 126 0) (cond (Nat.beq k 164) 608 0)) (cond (Nat.ble k 165) (cond (Nat.beq k 165) 41 0) (cond (Nat.beq k 166) 16 0))) (cond (Nat.ble k 168) (cond (Nat.ble k 167) (cond (Nat.beq k 167) 92 0) (cond (Nat.beq k 168) 112 0)) (cond (Nat.ble k 169) (cond (Nat.beq k 169) 35 0) (cond (Nat.ble k 170) (cond (Nat.beq k 170) 8 0) (cond (Nat.beq k 171) 26 0))))))) (cond (Nat.ble k 188) (cond (Nat.ble k 179) (cond (Nat.ble k 175) (cond (Nat.ble k 173) (cond (Nat.ble k 172) (cond (Nat.beq k 172) 8 0) (cond (Nat.beq k 173) 95 0)) (cond (Nat.ble k 174) (cond (Nat.beq k 174) 15 0) (cond (Nat.beq k 175) 38 0))) (cond (Nat.ble k 177) (cond (Nat.ble k 176) (cond (Nat.beq k 176) 93 0) (cond (Nat.beq k 177) 12 0)) (cond (Nat.ble k 178) (cond (Nat.beq k 178) 10 0) (cond (Nat.beq k 179) 98 0)))) (cond (Nat.ble k 183) (cond (Nat.ble k 181) (cond (Nat.ble k 180) (cond (Nat.beq k 180) 365 0) (cond (Nat.beq k 181) 17 0)) (cond (Nat.ble k 182) (cond (Nat.beq k 182) 79 0) (cond (Nat.beq k 183) 98 0))) (cond (Nat.ble k 185) (cond (Nat.ble k 184) (cond (Nat.beq k 184) 12 0) (cond (Nat.beq k 185) 21 0)) (cond (Nat.ble k 186) (cond (Nat.beq k 186) 72 0) (cond (Nat.ble k 187) (cond (Nat.beq k 187) 43 0) (cond (Nat.beq k 188) 49 0)))))) (cond (Nat.ble k 197) (cond (Nat.ble k 192) (cond (Nat.ble k 190) (cond (Nat.ble k 189) (cond (Nat.beq k 189) 35 0) (cond (Nat.beq k 190) 103 0)) (cond (Nat.ble k 191) (cond (Nat.beq k 191) 37 0) (cond (Nat.beq k 192) 51 0))) (cond (Nat.ble k 194) (cond (Nat.ble k 193) (cond (Nat.beq k 193) 35 0) (cond (Nat.beq k 194) 93 0)) (cond (Nat.ble k 195) (cond (Nat.beq k 195) 97 0) (cond (Nat.ble k 196) (cond (Nat.beq k 196) 71 0) (cond (Nat.beq k 197) 155 0))))) (cond (Nat.ble k 201) (cond (Nat.ble k 199) (cond (Nat.ble k 198) (cond (Nat.beq k 198) 9 0) (cond (Nat.beq k 199) 63 0)) (cond (Nat.ble k 200) (cond (Nat.beq k 200) 59 0) (cond (Nat.beq k 201) 102 0))) (cond (Nat.ble k 203) (cond (Nat.ble k 202) (cond (Nat.beq k 202) 25 0) (cond (Nat.beq k 203) 79 0)) (cond (Nat.ble k 204) (cond (Nat.beq k 204) 32 0) (cond (Nat.ble k 205) (cond (Nat.beq k 205) 64 0) (cond (Nat.beq k 206) 53 0)))))))) (cond (Nat.ble k 240) (cond (Nat.ble k 223) (cond (Nat.ble k 214) (cond (Nat.ble k 210) (cond (Nat.ble k 208) (cond (Nat.ble k 207) (cond (Nat.beq k 207) 67 0) (cond (Nat.beq k 208) 67 0)) (cond (Nat.ble k 209) (cond (Nat.beq k 209) 25 0) (cond (Nat.beq k 210) 23 0))) (cond (Nat.ble k 212) (cond (Nat.ble k 211) (cond (Nat.beq k 211) 49 0) (cond (Nat.beq k 212) 180 0)) (cond (Nat.ble k 213) (cond (Nat.beq k 213) 29 0) (cond (Nat.beq k 214) 95 0)))) (cond (Nat.ble k 218) (cond (Nat.ble k 216) (cond (Nat.ble k 215) (cond (Nat.beq k 215) 103 0) (cond (Nat.beq k 216) 369 0)) (cond (Nat.ble k 217) (cond (Nat.beq k 217) 21 0) (cond (Nat.beq k 218) 138 0))) (cond (Nat.ble k 220) (cond (Nat.ble k 219) (cond (Nat.beq k 219) 27 0) (cond (Nat.beq k 220) 12 0)) (cond (Nat.ble k 221) (cond (Nat.beq k 221) 73 0) (cond (Nat.ble k 222) (cond (Nat.beq k 222) 35 0) (cond (Nat.beq k 223) 14 0)))))) (cond (Nat.ble k 231) (cond (Nat.ble k 227) (cond (Nat.ble k 225) (cond (Nat.ble k 224) (cond (Nat.beq k 224) 28 0) (cond (Nat.beq k 225) 22 0)) (cond (Nat.ble k 226) (cond (Nat.beq k 226) 164 0) (cond (Nat.beq k 227) 51 0))) (cond (Nat.ble k 229) (cond (Nat.ble k 228) (cond (Nat.beq k 228) 197 0) (cond (Nat.beq k 229) 31 0)) (cond (Nat.ble k 230) (cond (Nat.beq k 230) 44 0) (cond (Nat.beq k 231) 12 0)))) (cond (Nat.ble k 235) (cond (Nat.ble k 233) (cond (Nat.ble k 232) (cond (Nat.beq k 232) 19 0) (cond (Nat.beq k 233) 246 0)) (cond (Nat.ble k 234) (cond (Nat.beq k 234) 25 0) (cond (Nat.beq k 235) 34 0))) (cond (Nat.ble k 237) (cond (Nat.ble k 236) (cond (Nat.beq k 236) 105 0) (cond (Nat.beq k 237) 12 0)) (cond (Nat.ble k 238) (cond (Nat.beq k 238) 69 0) (cond (Nat.ble k 239) (cond (Nat.beq k 239) 96 0) (cond (Nat.beq k 240) 94 0))))))) (cond (Nat.ble k 257) (cond (Nat.ble k 248) (cond (Nat.ble k 244) (cond (Nat.ble k 242) (cond (Nat.ble k 241) (cond (Nat.beq k 241) 12 0) (cond (Nat.beq k 242) 52 0)) (cond (Nat.ble k 243) (cond (Nat.beq k 243) 45 0) (cond (Nat.beq k 244) 175 0))) (cond (Nat.ble k 246) (cond (Nat.ble k 245) (cond (Nat.beq k 245) 25 0) (cond (Nat.beq k 246) 134 0)) (cond (Nat.ble k 247) (cond (Nat.beq k 247) 75 0) (cond (Nat.beq k 248) 12 0)))) (cond (Nat.ble k 252) (cond (Nat.ble k 250) (cond (Nat.ble k 249) (cond (Nat.beq k 249) 240 0) (cond (Nat.beq k 250) 102 0)) (cond (Nat.ble k 251) (cond (Nat.beq k 251) 42 0) (cond (Nat.beq k 252) 158 0))) (cond (Nat.ble k 254) (cond (Nat.ble k 253) (cond (Nat.beq k 253) 207 0) (cond (Nat.beq k 254) 58 0)) (cond (Nat.ble k 255) (cond (Nat.beq k 255) 79 0) (cond (Nat.ble k 256) (cond (Nat.beq k 256) 30 0) (cond (Nat.beq k 257) 22 0)))))) (cond (Nat.ble k 266) (cond (Nat.ble k 261) (cond (Nat.ble k 259) (cond (Nat.ble k 258) (cond (Nat.beq k 258) 15 0) (cond (Nat.beq k 259) 6 0)) (cond (Nat.ble k 260) (cond (Nat.beq k 260) 58 0) (cond (Nat.beq k 261) 71 0))) (cond (Nat.ble k 263) (cond (Nat.ble k 262) (cond (Nat.beq k 262) 6 0) (cond (Nat.beq k 263) 15 0)) (cond (Nat.ble k 264) (cond (Nat.beq k 264) 60 0) (cond (Nat.ble k 265) (cond (Nat.beq k 265) 15 0) (cond (Nat.beq k 266) 15 0))))) (cond (Nat.ble k 270) (cond (Nat.ble k 268) (cond (Nat.ble k 267) (cond (Nat.beq k 267) 29 0) (cond (Nat.beq k 268) 49 0)) (cond (Nat.ble k 269) (cond (Nat.beq k 269) 127 0) (cond (Nat.beq k 270) 106 0))) (cond (Nat.ble k 272) (cond (Nat.ble k 271) (cond (Nat.beq k 271) 7 0) (cond (Nat.beq k 272) 121 0)) (cond (Nat.ble k 273) (cond (Nat.beq k 273) 67 0) (cond (Nat.ble k 274) (cond (Nat.beq k 274) 67 0) (cond (Nat.beq k 275) 220 0)))))))))
def ci_from (s n : Nat) (p : Nat → Bool) : Bool := sm_upto n (fun j => p (s + j))
theorem ck_i0_0 : ci_from 0 100 (ci_ok 0) = true := by decide +kernel
theorem ck_i0_1 : ci_from 100 100 (ci_ok 0) = true := by decide +kernel
theorem ck_i0_2 : ci_from 200 100 (ci_ok 0) = true := by decide +kernel
theorem ck_i0_3 : ci_from 300 100 (ci_ok 0) = true := by decide +kernel
theorem ck_i0_4 : ci_from 400 100 (ci_ok 0) = true := by decide +kernel
theorem ck_i0_5 : ci_from 500 100 (ci_ok 0) = true := by decide +kernel
theorem ck_i0_6 : ci_from 600 100 (ci_ok 0) = true := by decide +kernel
theorem ck_i0_7 : ci_from 700 100 (ci_ok 0) = true := by decide +kernel
theorem ck_i0_8 : ci_from 800 100 (ci_ok 0) = true := by decide +kernel
theorem ck_i0_9 : ci_from 900 100 (ci_ok 0) = true := by decide +kernel
theorem ck_i0_10 : ci_from 1000 100 (ci_ok 0) = true := by decide +kernel
theorem ck_i0_11 : ci_from 1100 100 (ci_ok 0) = true := by decide +kernel
theorem ck_i0_12 : ci_from 1200 100 (ci_ok 0) = true := by decide +kernel
theorem ck_i0_13 : ci_from 1300 100 (ci_ok 0) = true := by decide +kernel
theorem ck_i0_14 : ci_from 1400 100 (ci_ok 0) = true := by decide +kernel
theorem ck_i0_15 : ci_from 1500 100 (ci_ok 0) = true := by decide +kernel
theorem ck_i0_16 : ci_from 1600 100 (ci_ok 0) = true := by decide +kernel
theorem ck_i0_17 : ci_from 1700 100 (ci_ok 0) = true := by decide +kernel
theorem ck_i0_18 : ci_from 1800 79 (ci_ok 0) = true := by decide +kernel
theorem ck_i1 : sm_upto 10 (fun k => Nat.beq (0 + k) 0 || ci_from 0 (sm_sz (0 + k)) (ci_ok (0 + k))) = true := by decide +kernel
theorem ck_i2 : sm_upto 10 (fun k => Nat.beq (10 + k) 0 || ci_from 0 (sm_sz (10 + k)) (ci_ok (10 + k))) = true := by decide +kernel
theorem ck_i3 : sm_upto 10 (fun k => Nat.beq (20 + k) 0 || ci_from 0 (sm_sz (20 + k)) (ci_ok (20 + k))) = true := by decide +kernel
theorem ck_i4 : sm_upto 10 (fun k => Nat.beq (30 + k) 0 || ci_from 0 (sm_sz (30 + k)) (ci_ok (30 + k))) = true := by decide +kernel
theorem ck_i5 : sm_upto 10 (fun k => Nat.beq (40 + k) 0 || ci_from 0 (sm_sz (40 + k)) (ci_ok (40 + k))) = true := by decide +kernel
theorem ck_i6 : sm_upto 10 (fun k => Nat.beq (50 + k) 0 || ci_from 0 (sm_sz (50 + k)) (ci_ok (50 + k))) = true := by decide +kernel
theorem ck_i7 : sm_upto 10 (fun k => Nat.beq (60 + k) 0 || ci_from 0 (sm_sz (60 + k)) (ci_ok (60 + k))) = true := by decide +kernel
theorem ck_i8 : sm_upto 10 (fun k => Nat.beq (70 + k) 0 || ci_from 0 (sm_sz (70 + k)) (ci_ok (70 + k))) = true := by decide +kernel
theorem ck_i9 : sm_upto 10 (fun k => Nat.beq (80 + k) 0 || ci_from 0 (sm_sz (80 + k)) (ci_ok (80 + k))) = true := by decide +kernel
theorem ck_i10 : sm_upto 10 (fun k => Nat.beq (90 + k) 0 || ci_from 0 (sm_sz (90 + k)) (ci_ok (90 + k))) = true := by decide +kernel
theorem ck_i11 : sm_upto 10 (fun k => Nat.beq (100 + k) 0 || ci_from 0 (sm_sz (100 + k)) (ci_ok (100 + k))) = true := by decide +kernel
theorem ck_i12 : sm_upto 10 (fun k => Nat.beq (110 + k) 0 || ci_from 0 (sm_sz (110 + k)) (ci_ok (110 + k))) = true := by decide +kernel
theorem ck_i13 : sm_upto 10 (fun k => Nat.beq (120 + k) 0 || ci_from 0 (sm_sz (120 + k)) (ci_ok (120 + k))) = true := by decide +kernel
theorem ck_i14 : sm_upto 10 (fun k => Nat.beq (130 + k) 0 || ci_from 0 (sm_sz (130 + k)) (ci_ok (130 + k))) = true := by decide +kernel
theorem ck_i15 : sm_upto 10 (fun k => Nat.beq (140 + k) 0 || ci_from 0 (sm_sz (140 + k)) (ci_ok (140 + k))) = true := by decide +kernel
theorem ck_i16 : sm_upto 10 (fun k => Nat.beq (150 + k) 0 || ci_from 0 (sm_sz (150 + k)) (ci_ok (150 + k))) = true := by decide +kernel
theorem ck_i17 : sm_upto 10 (fun k => Nat.beq (160 + k) 0 || ci_from 0 (sm_sz (160 + k)) (ci_ok (160 + k))) = true := by decide +kernel
theorem ck_i18 : sm_upto 10 (fun k => Nat.beq (170 + k) 0 || ci_from 0 (sm_sz (170 + k)) (ci_ok (170 + k))) = true := by decide +kernel
theorem ck_i19 : sm_upto 10 (fun k => Nat.beq (180 + k) 0 || ci_from 0 (sm_sz (180 + k)) (ci_ok (180 + k))) = true := by decide +kernel
theorem ck_i20 : sm_upto 10 (fun k => Nat.beq (190 + k) 0 || ci_from 0 (sm_sz (190 + k)) (ci_ok (190 + k))) = true := by decide +kernel
theorem ck_i21 : sm_upto 10 (fun k => Nat.beq (200 + k) 0 || ci_from 0 (sm_sz (200 + k)) (ci_ok (200 + k))) = true := by decide +kernel
theorem ck_i22 : sm_upto 10 (fun k => Nat.beq (210 + k) 0 || ci_from 0 (sm_sz (210 + k)) (ci_ok (210 + k))) = true := by decide +kernel
theorem ck_i23 : sm_upto 10 (fun k => Nat.beq (220 + k) 0 || ci_from 0 (sm_sz (220 + k)) (ci_ok (220 + k))) = true := by decide +kernel
theorem ck_i24 : sm_upto 10 (fun k => Nat.beq (230 + k) 0 || ci_from 0 (sm_sz (230 + k)) (ci_ok (230 + k))) = true := by decide +kernel
theorem ck_i25 : sm_upto 10 (fun k => Nat.beq (240 + k) 0 || ci_from 0 (sm_sz (240 + k)) (ci_ok (240 + k))) = true := by decide +kernel
theorem ck_i26 : sm_upto 10 (fun k => Nat.beq (250 + k) 0 || ci_from 0 (sm_sz (250 + k)) (ci_ok (250 + k))) = true := by decide +kernel
theorem ck_i27 : sm_upto 10 (fun k => Nat.beq (260 + k) 0 || ci_from 0 (sm_sz (260 + k)) (ci_ok (260 + k))) = true := by decide +kernel
theorem ck_i28 : sm_upto 6 (fun k => Nat.beq (270 + k) 0 || ci_from 0 (sm_sz (270 + k)) (ci_ok (270 + k))) = true := by decide +kernel
