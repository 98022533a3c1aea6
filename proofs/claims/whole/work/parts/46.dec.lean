/-! THE METHODS AS FUNCTIONS, 29 -/
/-- NineWheelLaw.law([I)Z -/
theorem ft272 : ∀ (i : Nat) {q : Nat × XI}, cd272[i]? = some q → fetch 272 q.1 = some q.2 := ft_of (by decide +kernel)
theorem pr272 : pRt 272 = some .boolean := rfl
def f272_H18 (S : Sc) (n : Nat)  (K10 : Wd → Option (Int32 × Wd)) : Nat → Nat → Nat → Int32 → Wd → Option (Int32 × Wd)
  | 0, _, _, _, _ => none
  | k + 1, v1, v2, v3, w =>
    (if ((Int32.ofNat S.1) - (6 : Int32)) < v3 then K10 w
      else ob (tldI S 3 v3) (fun x5 => (if (x5 &&& (31 : Int32)) = 0 then ob (tldI S 3 (v3 + (1 : Int32))) (fun x431 => ob (tldI S 3 (v3 + (2 : Int32))) (fun x433 => ob (tldI S 3 (v3 + (3 : Int32))) (fun x435 => (if (wsh w v1).map (fun q => q.1) = some 10 then ob (f72 n v1 x431 (((Int32.toInt64 x433) <<< (Int32.toInt64 (32 : Int32) &&& 63)) ||| ((Int32.toInt64 x435) &&& (4294967295 : Int64))) w) (fun p437 => ob (tldI S 3 (v3 + (1 : Int32))) (fun x439 => ob (tldI S 3 (v3 + (2 : Int32))) (fun x441 => ob (tldI S 3 (v3 + (3 : Int32))) (fun x443 => (if (wsh p437.2 v2).map (fun q => q.1) = some 11 then ob (f110 n v2 x439 (((Int32.toInt64 x441) <<< (Int32.toInt64 (32 : Int32) &&& 63)) ||| ((Int32.toInt64 x443) &&& (4294967295 : Int64))) p437.2) (fun p445 => (if p437.1 = p445.1 then (fun (v1 : Nat) (v2 : Nat) (v3 : Int32) w => f272_H18 S n  K10 k v1 v2 v3 w) v1 v2 (v3 + (6 : Int32)) p445.2
          else some ((0 : Int32), p445.2))) else none))))) else none))))
        else (if (x5 &&& (31 : Int32)) = 1 then (if (wsh w v1).map (fun q => q.1) = some 10 then ob (f247 n v1 w) (fun p424 => (if (wsh p424.2 v2).map (fun q => q.1) = some 11 then ob (f243 n v2 p424.2) (fun p426 => (if p424.1 = p426.1 then (fun (v1 : Nat) (v2 : Nat) (v3 : Int32) w => f272_H18 S n  K10 k v1 v2 v3 w) v1 v2 (v3 + (6 : Int32)) p426.2
            else some ((0 : Int32), p426.2))) else none)) else none)
          else (if (x5 &&& (31 : Int32)) = 2 then (if (wsh w v1).map (fun q => q.1) = some 10 then ob (f233 n v1 w) (fun p417 => (if (wsh p417.2 v2).map (fun q => q.1) = some 11 then ob (f213 n v2 p417.2) (fun p419 => (if p417.1 = p419.1 then (fun (v1 : Nat) (v2 : Nat) (v3 : Int32) w => f272_H18 S n  K10 k v1 v2 v3 w) v1 v2 (v3 + (6 : Int32)) p419.2
              else some ((0 : Int32), p419.2))) else none)) else none)
            else (if (x5 &&& (31 : Int32)) = 3 then (if (wsh w v1).map (fun q => q.1) = some 10 then ob (f18 v1 w) (fun p410 => (if (wsh p410.2 v2).map (fun q => q.1) = some 11 then ob (f49 v2 p410.2) (fun p412 => (if p410.1 = p412.1 then (fun (v1 : Nat) (v2 : Nat) (v3 : Int32) w => f272_H18 S n  K10 k v1 v2 v3 w) v1 v2 (v3 + (6 : Int32)) p412.2
                else some ((0 : Int32), p412.2))) else none)) else none)
              else (if (x5 &&& (31 : Int32)) = 4 then ob (tldI S 3 (v3 + (1 : Int32))) (fun x399 => (if (wsh w v1).map (fun q => q.1) = some 10 then ob (f19 v1 x399 w) (fun p401 => ob (tldI S 3 (v3 + (1 : Int32))) (fun x403 => (if (wsh p401.2 v2).map (fun q => q.1) = some 11 then ob (f117 n v2 x403 p401.2) (fun p405 => (if p401.1 = p405.1 then (fun (v1 : Nat) (v2 : Nat) (v3 : Int32) w => f272_H18 S n  K10 k v1 v2 v3 w) v1 v2 (v3 + (6 : Int32)) p405.2
                  else some ((0 : Int32), p405.2))) else none))) else none))
                else (if (x5 &&& (31 : Int32)) = 5 then ob (tldI S 3 (v3 + (1 : Int32))) (fun x384 => ob (tldI S 3 (v3 + (2 : Int32))) (fun x386 => (if (wsh w v1).map (fun q => q.1) = some 10 then ob (f180 n v1 x384 x386 w) (fun p388 => ob (tldI S 3 (v3 + (1 : Int32))) (fun x390 => ob (tldI S 3 (v3 + (2 : Int32))) (fun x392 => (if (wsh p388.2 v2).map (fun q => q.1) = some 11 then ob (f164 n v2 x390 x392 p388.2) (fun p394 => (if p388.1 = p394.1 then (fun (v1 : Nat) (v2 : Nat) (v3 : Int32) w => f272_H18 S n  K10 k v1 v2 v3 w) v1 v2 (v3 + (6 : Int32)) p394.2
                    else some ((0 : Int32), p394.2))) else none)))) else none)))
                  else (if (x5 &&& (31 : Int32)) = 6 then ob (tldI S 3 (v3 + (1 : Int32))) (fun x369 => ob (tldI S 3 (v3 + (2 : Int32))) (fun x371 => (if (wsh w v1).map (fun q => q.1) = some 10 then ob (f144 v1 x369 x371 w) (fun p373 => ob (tldI S 3 (v3 + (1 : Int32))) (fun x375 => ob (tldI S 3 (v3 + (2 : Int32))) (fun x377 => (if (wsh p373.2 v2).map (fun q => q.1) = some 11 then ob (f165 v2 x375 x377 p373.2) (fun p379 => (if p373.1 = p379.1 then (fun (v1 : Nat) (v2 : Nat) (v3 : Int32) w => f272_H18 S n  K10 k v1 v2 v3 w) v1 v2 (v3 + (6 : Int32)) p379.2
                      else some ((0 : Int32), p379.2))) else none)))) else none)))
                    else (if (x5 &&& (31 : Int32)) = 7 then ob (tldI S 3 (v3 + (1 : Int32))) (fun x342 => ob (tldI S 3 (v3 + (2 : Int32))) (fun x344 => ob (tldI S 3 (v3 + (3 : Int32))) (fun x346 => ob (tldI S 3 (v3 + (4 : Int32))) (fun x348 => ob (tldI S 3 (v3 + (5 : Int32))) (fun x350 => (if (wsh w v1).map (fun q => q.1) = some 10 then ob (f181 v1 x342 x344 x346 x348 x350 w) (fun p352 => ob (tldI S 3 (v3 + (1 : Int32))) (fun x354 => ob (tldI S 3 (v3 + (2 : Int32))) (fun x356 => ob (tldI S 3 (v3 + (3 : Int32))) (fun x358 => ob (tldI S 3 (v3 + (4 : Int32))) (fun x360 => ob (tldI S 3 (v3 + (5 : Int32))) (fun x362 => (if (wsh p352.2 v2).map (fun q => q.1) = some 11 then ob (f190 v2 x354 x356 x358 x360 x362 p352.2) (fun p364 => (if p352.1 = p364.1 then (fun (v1 : Nat) (v2 : Nat) (v3 : Int32) w => f272_H18 S n  K10 k v1 v2 v3 w) v1 v2 (v3 + (6 : Int32)) p364.2
                        else some ((0 : Int32), p364.2))) else none))))))) else none))))))
                      else (if (x5 &&& (31 : Int32)) = 8 then ob (tldI S 3 (v3 + (1 : Int32))) (fun x323 => ob (tldI S 3 (v3 + (2 : Int32))) (fun x325 => ob (tldI S 3 (v3 + (3 : Int32))) (fun x327 => (if (wsh w v1).map (fun q => q.1) = some 10 then ob (f146 v1 x323 x325 x327 w) (fun p329 => ob (tldI S 3 (v3 + (1 : Int32))) (fun x331 => ob (tldI S 3 (v3 + (2 : Int32))) (fun x333 => ob (tldI S 3 (v3 + (3 : Int32))) (fun x335 => (if (wsh p329.2 v2).map (fun q => q.1) = some 11 then ob (f167 v2 x331 x333 x335 p329.2) (fun p337 => (if p329.1 = p337.1 then (fun (v1 : Nat) (v2 : Nat) (v3 : Int32) w => f272_H18 S n  K10 k v1 v2 v3 w) v1 v2 (v3 + (6 : Int32)) p337.2
                          else some ((0 : Int32), p337.2))) else none))))) else none))))
                        else (if (x5 &&& (31 : Int32)) = 9 then ob (tldI S 3 (v3 + (1 : Int32))) (fun x304 => ob (tldI S 3 (v3 + (2 : Int32))) (fun x306 => ob (tldI S 3 (v3 + (3 : Int32))) (fun x308 => (if (wsh w v1).map (fun q => q.1) = some 10 then ob (f219 n v1 x304 x306 x308 w) (fun p310 => ob (tldI S 3 (v3 + (1 : Int32))) (fun x312 => ob (tldI S 3 (v3 + (2 : Int32))) (fun x314 => ob (tldI S 3 (v3 + (3 : Int32))) (fun x316 => (if (wsh p310.2 v2).map (fun q => q.1) = some 11 then ob (f212 n v2 x312 x314 x316 p310.2) (fun p318 => (if p310.1 = p318.1 then (fun (v1 : Nat) (v2 : Nat) (v3 : Int32) w => f272_H18 S n  K10 k v1 v2 v3 w) v1 v2 (v3 + (6 : Int32)) p318.2
                            else some ((0 : Int32), p318.2))) else none))))) else none))))
                          else (if (x5 &&& (31 : Int32)) = 10 then ob (tldI S 3 (v3 + (1 : Int32))) (fun x281 => ob (tldI S 3 (v3 + (2 : Int32))) (fun x283 => ob (tldI S 3 (v3 + (3 : Int32))) (fun x285 => ob (tldI S 3 (v3 + (4 : Int32))) (fun x287 => (if (wsh w v1).map (fun q => q.1) = some 10 then ob (f220 n v1 x281 x283 x285 x287 w) (fun p289 => ob (tldI S 3 (v3 + (1 : Int32))) (fun x291 => ob (tldI S 3 (v3 + (2 : Int32))) (fun x293 => ob (tldI S 3 (v3 + (3 : Int32))) (fun x295 => ob (tldI S 3 (v3 + (4 : Int32))) (fun x297 => (if (wsh p289.2 v2).map (fun q => q.1) = some 11 then ob (f227 n v2 x291 x293 x295 x297 p289.2) (fun p299 => (if p289.1 = p299.1 then (fun (v1 : Nat) (v2 : Nat) (v3 : Int32) w => f272_H18 S n  K10 k v1 v2 v3 w) v1 v2 (v3 + (6 : Int32)) p299.2
                              else some ((0 : Int32), p299.2))) else none)))))) else none)))))
                            else (if (x5 &&& (31 : Int32)) = 11 then ob (tldI S 3 (v3 + (1 : Int32))) (fun x266 => ob (tldI S 3 (v3 + (2 : Int32))) (fun x268 => (if (wsh w v1).map (fun q => q.1) = some 10 then ob (f234 n v1 x266 x268 w) (fun p270 => ob (tldI S 3 (v3 + (1 : Int32))) (fun x272 => ob (tldI S 3 (v3 + (2 : Int32))) (fun x274 => (if (wsh p270.2 v2).map (fun q => q.1) = some 11 then ob (f248 n v2 x272 x274 p270.2) (fun p276 => (if p270.1 = p276.1 then (fun (v1 : Nat) (v2 : Nat) (v3 : Int32) w => f272_H18 S n  K10 k v1 v2 v3 w) v1 v2 (v3 + (6 : Int32)) p276.2
                                else some ((0 : Int32), p276.2))) else none)))) else none)))
                              else (if (x5 &&& (31 : Int32)) = 12 then ob (tldI S 3 (v3 + (1 : Int32))) (fun x247 => ob (tldI S 3 (v3 + (2 : Int32))) (fun x249 => ob (tldI S 3 (v3 + (3 : Int32))) (fun x251 => (if (wsh w v1).map (fun q => q.1) = some 10 then ob (f235 n v1 x247 x249 x251 w) (fun p253 => ob (tldI S 3 (v3 + (1 : Int32))) (fun x255 => ob (tldI S 3 (v3 + (2 : Int32))) (fun x257 => ob (tldI S 3 (v3 + (3 : Int32))) (fun x259 => (if (wsh p253.2 v2).map (fun q => q.1) = some 11 then ob (f249 n v2 x255 x257 x259 p253.2) (fun p261 => (if p253.1 = p261.1 then (fun (v1 : Nat) (v2 : Nat) (v3 : Int32) w => f272_H18 S n  K10 k v1 v2 v3 w) v1 v2 (v3 + (6 : Int32)) p261.2
                                  else some ((0 : Int32), p261.2))) else none))))) else none))))
                                else (if (x5 &&& (31 : Int32)) = 13 then ob (tldI S 3 (v3 + (1 : Int32))) (fun x232 => ob (tldI S 3 (v3 + (2 : Int32))) (fun x234 => (if (wsh w v1).map (fun q => q.1) = some 10 then ob (f236 n v1 x232 x234 w) (fun p236 => ob (tldI S 3 (v3 + (1 : Int32))) (fun x238 => ob (tldI S 3 (v3 + (2 : Int32))) (fun x240 => (if (wsh p236.2 v2).map (fun q => q.1) = some 11 then ob (f250 n v2 x238 x240 p236.2) (fun p242 => (if p236.1 = p242.1 then (fun (v1 : Nat) (v2 : Nat) (v3 : Int32) w => f272_H18 S n  K10 k v1 v2 v3 w) v1 v2 (v3 + (6 : Int32)) p242.2
                                    else some ((0 : Int32), p242.2))) else none)))) else none)))
                                  else (if (x5 &&& (31 : Int32)) = 14 then ob (tldI S 3 (v3 + (1 : Int32))) (fun x221 => (if (wsh w v1).map (fun q => q.1) = some 10 then ob (f157 v1 x221 w) (fun p223 => ob (tldI S 3 (v3 + (1 : Int32))) (fun x225 => (if (wsh p223.2 v2).map (fun q => q.1) = some 11 then ob (f130 v2 x225 p223.2) (fun p227 => (if p223.1 = p227.1 then (fun (v1 : Nat) (v2 : Nat) (v3 : Int32) w => f272_H18 S n  K10 k v1 v2 v3 w) v1 v2 (v3 + (6 : Int32)) p227.2
                                      else some ((0 : Int32), p227.2))) else none))) else none))
                                    else (if (x5 &&& (31 : Int32)) = 15 then (if (wsh w v1).map (fun q => q.1) = some 10 then ob (f33 v1 w) (fun p214 => (if (wsh p214.2 v2).map (fun q => q.1) = some 11 then ob (f60 v2 p214.2) (fun p216 => (if p214.1 = p216.1 then (fun (v1 : Nat) (v2 : Nat) (v3 : Int32) w => f272_H18 S n  K10 k v1 v2 v3 w) v1 v2 (v3 + (6 : Int32)) p216.2
                                        else some ((0 : Int32), p216.2))) else none)) else none)
                                      else (if (x5 &&& (31 : Int32)) = 16 then ob (tldI S 3 (v3 + (1 : Int32))) (fun x203 => (if (wsh w v1).map (fun q => q.1) = some 10 then ob (f237 n v1 x203 w) (fun p205 => ob (tldI S 3 (v3 + (1 : Int32))) (fun x207 => (if (wsh p205.2 v2).map (fun q => q.1) = some 11 then ob (f251 n v2 x207 p205.2) (fun p209 => (if p205.1 = p209.1 then (fun (v1 : Nat) (v2 : Nat) (v3 : Int32) w => f272_H18 S n  K10 k v1 v2 v3 w) v1 v2 (v3 + (6 : Int32)) p209.2
                                          else some ((0 : Int32), p209.2))) else none))) else none))
                                        else (if (x5 &&& (31 : Int32)) = 17 then ob (tldI S 3 (v3 + (1 : Int32))) (fun x180 => ob (tldI S 3 (v3 + (2 : Int32))) (fun x182 => ob (tldI S 3 (v3 + (3 : Int32))) (fun x184 => ob (tldI S 3 (v3 + (4 : Int32))) (fun x186 => (if (wsh w v1).map (fun q => q.1) = some 10 then ob (f222 n v1 x180 x182 x184 x186 w) (fun p188 => ob (tldI S 3 (v3 + (1 : Int32))) (fun x190 => ob (tldI S 3 (v3 + (2 : Int32))) (fun x192 => ob (tldI S 3 (v3 + (3 : Int32))) (fun x194 => ob (tldI S 3 (v3 + (4 : Int32))) (fun x196 => (if (wsh p188.2 v2).map (fun q => q.1) = some 11 then ob (f229 n v2 x190 x192 x194 x196 p188.2) (fun p198 => (if p188.1 = p198.1 then (fun (v1 : Nat) (v2 : Nat) (v3 : Int32) w => f272_H18 S n  K10 k v1 v2 v3 w) v1 v2 (v3 + (6 : Int32)) p198.2
                                            else some ((0 : Int32), p198.2))) else none)))))) else none)))))
                                          else (if (x5 &&& (31 : Int32)) = 18 then ob (tldI S 3 (v3 + (1 : Int32))) (fun x161 => ob (tldI S 3 (v3 + (2 : Int32))) (fun x163 => ob (tldI S 3 (v3 + (3 : Int32))) (fun x165 => (if (wsh w v1).map (fun q => q.1) = some 10 then ob (f223 n v1 x161 x163 x165 w) (fun p167 => ob (tldI S 3 (v3 + (1 : Int32))) (fun x169 => ob (tldI S 3 (v3 + (2 : Int32))) (fun x171 => ob (tldI S 3 (v3 + (3 : Int32))) (fun x173 => (if (wsh p167.2 v2).map (fun q => q.1) = some 11 then ob (f230 n v2 x169 x171 x173 p167.2) (fun p175 => (if p167.1 = p175.1 then (fun (v1 : Nat) (v2 : Nat) (v3 : Int32) w => f272_H18 S n  K10 k v1 v2 v3 w) v1 v2 (v3 + (6 : Int32)) p175.2
                                              else some ((0 : Int32), p175.2))) else none))))) else none))))
                                            else (if (x5 &&& (31 : Int32)) = 19 then ob (tldI S 3 (v3 + (1 : Int32))) (fun x142 => ob (tldI S 3 (v3 + (2 : Int32))) (fun x144 => ob (tldI S 3 (v3 + (3 : Int32))) (fun x146 => (if (wsh w v1).map (fun q => q.1) = some 10 then ob (f238 n v1 x142 x144 x146 w) (fun p148 => ob (tldI S 3 (v3 + (1 : Int32))) (fun x150 => ob (tldI S 3 (v3 + (2 : Int32))) (fun x152 => ob (tldI S 3 (v3 + (3 : Int32))) (fun x154 => (if (wsh p148.2 v2).map (fun q => q.1) = some 11 then ob (f252 n v2 x150 x152 x154 p148.2) (fun p156 => (if p148.1 = p156.1 then (fun (v1 : Nat) (v2 : Nat) (v3 : Int32) w => f272_H18 S n  K10 k v1 v2 v3 w) v1 v2 (v3 + (6 : Int32)) p156.2
                                                else some ((0 : Int32), p156.2))) else none))))) else none))))
                                              else (if (x5 &&& (31 : Int32)) = 20 then ob (tldI S 3 (v3 + (1 : Int32))) (fun x123 => ob (tldI S 3 (v3 + (2 : Int32))) (fun x125 => ob (tldI S 3 (v3 + (3 : Int32))) (fun x127 => (if (wsh w v1).map (fun q => q.1) = some 10 then ob (f239 n v1 x123 x125 x127 w) (fun p129 => ob (tldI S 3 (v3 + (1 : Int32))) (fun x131 => ob (tldI S 3 (v3 + (2 : Int32))) (fun x133 => ob (tldI S 3 (v3 + (3 : Int32))) (fun x135 => (if (wsh p129.2 v2).map (fun q => q.1) = some 11 then ob (f255 n v2 x131 x133 x135 p129.2) (fun p137 => (if p129.1 = p137.1 then (fun (v1 : Nat) (v2 : Nat) (v3 : Int32) w => f272_H18 S n  K10 k v1 v2 v3 w) v1 v2 (v3 + (6 : Int32)) p137.2
                                                  else some ((0 : Int32), p137.2))) else none))))) else none))))
                                                else (if (x5 &&& (31 : Int32)) = 21 then ob (tldI S 3 (v3 + (1 : Int32))) (fun x108 => ob (tldI S 3 (v3 + (2 : Int32))) (fun x110 => (if (wsh w v1).map (fun q => q.1) = some 10 then ob (f240 n v1 x108 x110 w) (fun p112 => ob (tldI S 3 (v3 + (1 : Int32))) (fun x114 => ob (tldI S 3 (v3 + (2 : Int32))) (fun x116 => (if (wsh p112.2 v2).map (fun q => q.1) = some 11 then ob (f256 n v2 x114 x116 p112.2) (fun p118 => (if p112.1 = p118.1 then (fun (v1 : Nat) (v2 : Nat) (v3 : Int32) w => f272_H18 S n  K10 k v1 v2 v3 w) v1 v2 (v3 + (6 : Int32)) p118.2
                                                    else some ((0 : Int32), p118.2))) else none)))) else none)))
                                                  else (if (x5 &&& (31 : Int32)) = 22 then ob (tldI S 3 (v3 + (1 : Int32))) (fun x89 => ob (tldI S 3 (v3 + (2 : Int32))) (fun x91 => ob (tldI S 3 (v3 + (3 : Int32))) (fun x93 => (if (wsh w v1).map (fun q => q.1) = some 10 then ob (f225 n v1 x89 x91 x93 w) (fun p95 => ob (tldI S 3 (v3 + (1 : Int32))) (fun x97 => ob (tldI S 3 (v3 + (2 : Int32))) (fun x99 => ob (tldI S 3 (v3 + (3 : Int32))) (fun x101 => (if (wsh p95.2 v2).map (fun q => q.1) = some 11 then ob (f246 n v2 x97 x99 x101 p95.2) (fun p103 => (if p95.1 = p103.1 then (fun (v1 : Nat) (v2 : Nat) (v3 : Int32) w => f272_H18 S n  K10 k v1 v2 v3 w) v1 v2 (v3 + (6 : Int32)) p103.2
                                                      else some ((0 : Int32), p103.2))) else none))))) else none))))
                                                    else (if (x5 &&& (31 : Int32)) = 23 then ob (tldI S 3 (v3 + (1 : Int32))) (fun x70 => ob (tldI S 3 (v3 + (2 : Int32))) (fun x72 => ob (tldI S 3 (v3 + (3 : Int32))) (fun x74 => (if (wsh w v1).map (fun q => q.1) = some 10 then ob (f241 n v1 x70 x72 x74 w) (fun p76 => ob (tldI S 3 (v3 + (1 : Int32))) (fun x78 => ob (tldI S 3 (v3 + (2 : Int32))) (fun x80 => ob (tldI S 3 (v3 + (3 : Int32))) (fun x82 => (if (wsh p76.2 v2).map (fun q => q.1) = some 11 then ob (f254 n v2 x78 x80 x82 p76.2) (fun p84 => (if p76.1 = p84.1 then (fun (v1 : Nat) (v2 : Nat) (v3 : Int32) w => f272_H18 S n  K10 k v1 v2 v3 w) v1 v2 (v3 + (6 : Int32)) p84.2
                                                        else some ((0 : Int32), p84.2))) else none))))) else none))))
                                                      else (if (x5 &&& (31 : Int32)) = 24 then ob (tldI S 3 (v3 + (1 : Int32))) (fun x59 => (if (wsh w v1).map (fun q => q.1) = some 10 then ob (f37 v1 x59 w) (fun p61 => ob (tldI S 3 (v3 + (1 : Int32))) (fun x63 => (if (wsh p61.2 v2).map (fun q => q.1) = some 11 then ob (f62 v2 x63 p61.2) (fun p65 => (if p61.1 = p65.1 then (fun (v1 : Nat) (v2 : Nat) (v3 : Int32) w => f272_H18 S n  K10 k v1 v2 v3 w) v1 v2 (v3 + (6 : Int32)) p65.2
                                                          else some ((0 : Int32), p65.2))) else none))) else none))
                                                        else (if (x5 &&& (31 : Int32)) = 25 then ob (tldI S 3 (v3 + (1 : Int32))) (fun x40 => ob (tldI S 3 (v3 + (2 : Int32))) (fun x42 => ob (tldI S 3 (v3 + (3 : Int32))) (fun x44 => (if (wsh w v1).map (fun q => q.1) = some 10 then ob (f242 n v1 x40 x42 x44 w) (fun p46 => ob (tldI S 3 (v3 + (1 : Int32))) (fun x48 => ob (tldI S 3 (v3 + (2 : Int32))) (fun x50 => ob (tldI S 3 (v3 + (3 : Int32))) (fun x52 => (if (wsh p46.2 v2).map (fun q => q.1) = some 11 then ob (f231 n v2 x48 x50 x52 p46.2) (fun p54 => (if p46.1 = p54.1 then (fun (v1 : Nat) (v2 : Nat) (v3 : Int32) w => f272_H18 S n  K10 k v1 v2 v3 w) v1 v2 (v3 + (6 : Int32)) p54.2
                                                            else some ((0 : Int32), p54.2))) else none))))) else none))))
                                                          else (if (x5 &&& (31 : Int32)) = 26 then ob (tldI S 3 (v3 + (1 : Int32))) (fun x29 => (if (wsh w v1).map (fun q => q.1) = some 10 then ob (f38 v1 x29 w) (fun p31 => ob (tldI S 3 (v3 + (1 : Int32))) (fun x33 => (if (wsh p31.2 v2).map (fun q => q.1) = some 11 then ob (f64 v2 x33 p31.2) (fun p35 => (if p31.1 = p35.1 then (fun (v1 : Nat) (v2 : Nat) (v3 : Int32) w => f272_H18 S n  K10 k v1 v2 v3 w) v1 v2 (v3 + (6 : Int32)) p35.2
                                                              else some ((0 : Int32), p35.2))) else none))) else none))
                                                            else (if (x5 &&& (31 : Int32)) = 27 then ob (tldI S 3 (v3 + (1 : Int32))) (fun x18 => (if (wsh w v1).map (fun q => q.1) = some 10 then ob (f159 n v1 x18 w) (fun p20 => ob (tldI S 3 (v3 + (1 : Int32))) (fun x22 => (if (wsh p20.2 v2).map (fun q => q.1) = some 11 then ob (f133 n v2 x22 p20.2) (fun p24 => (if p20.1 = p24.1 then (fun (v1 : Nat) (v2 : Nat) (v3 : Int32) w => f272_H18 S n  K10 k v1 v2 v3 w) v1 v2 (v3 + (6 : Int32)) p24.2
                                                                else some ((0 : Int32), p24.2))) else none))) else none))
                                                              else (if (x5 &&& (31 : Int32)) = 28 then ob (tldI S 3 (v3 + (1 : Int32))) (fun x7 => (if (wsh w v1).map (fun q => q.1) = some 10 then ob (f160 n v1 x7 w) (fun p9 => ob (tldI S 3 (v3 + (1 : Int32))) (fun x11 => (if (wsh p9.2 v2).map (fun q => q.1) = some 11 then ob (f134 n v2 x11 p9.2) (fun p13 => (if p9.1 = p13.1 then (fun (v1 : Nat) (v2 : Nat) (v3 : Int32) w => f272_H18 S n  K10 k v1 v2 v3 w) v1 v2 (v3 + (6 : Int32)) p13.2
                                                                  else some ((0 : Int32), p13.2))) else none))) else none))
                                                                else (fun (v1 : Nat) (v2 : Nat) (v3 : Int32) w => f272_H18 S n  K10 k v1 v2 v3 w) v1 v2 (v3 + (6 : Int32)) w)))))))))))))))))))))))))))))))
set_option maxHeartbeats 20000000 in
set_option maxRecDepth 10000 in
theorem rf272_H18 {S : Sc} (n : Nat)  (K10 : Wd → Option (Int32 × Wd))  (hK10 : ∀  (w : Wd) (o : (Int32 × Wd)), K10 w = some o → Rn S 272 1167 [none, none, none, none] [] w (some (.int o.1), o.2)) : ∀ (k : Nat) (v1 : Nat) (v2 : Nat) (v3 : Int32) (w : Wd) (o : (Int32 × Wd)), f272_H18 S n  K10 k v1 v2 v3 w = some o → Rn S 272 18 [some (.float 3), some (.ref v1), some (.ref v2), some (.int v3)] [] w (some (.int o.1), o.2) := by
  intro k
  induction k with
  | zero =>
    intro v1 v2 v3 w o h
    exact nomatch h
  | succ k ih =>
    intro v1 v2 v3 w o h
    have hrec10 : ∀ (y1 : Nat) (y2 : Nat) (y3 : Int32) (w : Wd) (o : (Int32 × Wd)), (fun (v1 : Nat) (v2 : Nat) (v3 : Int32) w => f272_H18 S n  K10 k v1 v2 v3 w) y1 y2 y3 w = some o → Rn S 272 18 [some (.float 3), some (.ref y1), some (.ref y2), some (.int y3)] [] w (some (.int o.1), o.2) := fun y1 y2 y3 w o h => ih y1 y2 y3 w o h
    unfold f272_H18 at h
    refine rn_iload_n (ft272 10 rfl) rfl ?_
    refine rn_aload_nS (ft272 11 rfl) rfl ?_
    refine rn_alenS (v := (Int32.ofNat S.1)) (ft272 12 rfl) rfl ?_
    refine rn_bipush (v := (6 : Int32)) (ft272 13 rfl) (by decide) ?_
    refine rn_isub (ft272 14 rfl) ?_
    by_cases c480 : ((Int32.ofNat S.1) - (6 : Int32)) < v3
    · replace h := ifp c480 h
      refine rn_icmp_gt_t (ft272 15 rfl) c480 ?_
      exact rn_forget (ls := [none, none, none, none]) trivial (hK10 w _ h)
    · replace h := ifn c480 h
      refine rn_icmp_gt_f (ft272 15 rfl) c480 ?_
      refine rn_aload_nS (ft272 16 rfl) rfl ?_
      refine rn_iload_n (ft272 17 rfl) rfl ?_
      obtain ⟨x5, q6, h⟩ := ob_some h
      refine rn_ialoadS (ft272 18 rfl) q6 ?_
      refine rn_bipush (v := (31 : Int32)) (ft272 19 rfl) (by decide) ?_
      refine rn_iand (ft272 20 rfl) ?_
      by_cases c450 : (x5 &&& (31 : Int32)) = 0
      · replace h := ifp c450 h
        refine rn_sw_i (e := 131) (pc' := 164) (ft272 21 rfl) (by rw [c450]; decide) (by rw [c450]; rfl) (by decide) ?_
        refine rn_aload_n (ft272 22 rfl) rfl ?_
        refine rn_aload_nS (ft272 23 rfl) rfl ?_
        refine rn_iload_n (ft272 24 rfl) rfl ?_
        refine rn_iconst (v := (1 : Int32)) (ft272 25 rfl) (by decide) ?_
        refine rn_iadd (ft272 26 rfl) ?_
        obtain ⟨x431, q432, h⟩ := ob_some h
        refine rn_ialoadS (ft272 27 rfl) q432 ?_
        refine rn_aload_nS (ft272 28 rfl) rfl ?_
        refine rn_iload_n (ft272 29 rfl) rfl ?_
        refine rn_iconst (v := (2 : Int32)) (ft272 30 rfl) (by decide) ?_
        refine rn_iadd (ft272 31 rfl) ?_
        obtain ⟨x433, q434, h⟩ := ob_some h
        refine rn_ialoadS (ft272 32 rfl) q434 ?_
        refine rn_i2l (ft272 33 rfl) ?_
        refine rn_bipush (v := (32 : Int32)) (ft272 34 rfl) (by decide) ?_
        refine rn_lshl (ft272 35 rfl) ?_
        refine rn_aload_nS (ft272 36 rfl) rfl ?_
        refine rn_iload_n (ft272 37 rfl) rfl ?_
        refine rn_iconst (v := (3 : Int32)) (ft272 38 rfl) (by decide) ?_
        refine rn_iadd (ft272 39 rfl) ?_
        obtain ⟨x435, q436, h⟩ := ob_some h
        refine rn_ialoadS (ft272 40 rfl) q436 ?_
        refine rn_i2l (ft272 41 rfl) ?_
        refine rn_ldc2 (v := (4294967295 : Int64)) (ft272 42 rfl) (by decide) ?_
        refine rn_land (ft272 43 rfl) ?_
        refine rn_lor (ft272 44 rfl) ?_
        obtain ⟨g449, h⟩ := ifg h
        obtain ⟨p437, q438, h⟩ := ob_some h
        refine rn_callV (as := [.int x431, .long (((Int32.toInt64 x433) <<< (Int32.toInt64 (32 : Int32) &&& 63)) ||| ((Int32.toInt64 x435) &&& (4294967295 : Int64)))]) (k0 := v1) (r := []) (v := (some (.int p437.1))) (w1 := p437.2) (ft272 45 rfl) (by decide +kernel) rfl (Nat.le_of_ble_eq_true rfl) (Nat.le_of_ble_eq_true rfl) (r72 n v1 x431 (((Int32.toInt64 x433) <<< (Int32.toInt64 (32 : Int32) &&& 63)) ||| ((Int32.toInt64 x435) &&& (4294967295 : Int64))) w _ q438) (by decide +kernel) g449 ?_
        refine rn_aload_n (ft272 46 rfl) rfl ?_
        refine rn_aload_nS (ft272 47 rfl) rfl ?_
        refine rn_iload_n (ft272 48 rfl) rfl ?_
        refine rn_iconst (v := (1 : Int32)) (ft272 49 rfl) (by decide) ?_
        refine rn_iadd (ft272 50 rfl) ?_
        obtain ⟨x439, q440, h⟩ := ob_some h
        refine rn_ialoadS (ft272 51 rfl) q440 ?_
        refine rn_aload_nS (ft272 52 rfl) rfl ?_
        refine rn_iload_n (ft272 53 rfl) rfl ?_
        refine rn_iconst (v := (2 : Int32)) (ft272 54 rfl) (by decide) ?_
        refine rn_iadd (ft272 55 rfl) ?_
        obtain ⟨x441, q442, h⟩ := ob_some h
        refine rn_ialoadS (ft272 56 rfl) q442 ?_
        refine rn_i2l (ft272 57 rfl) ?_
        refine rn_bipush (v := (32 : Int32)) (ft272 58 rfl) (by decide) ?_
        refine rn_lshl (ft272 59 rfl) ?_
        refine rn_aload_nS (ft272 60 rfl) rfl ?_
        refine rn_iload_n (ft272 61 rfl) rfl ?_
        refine rn_iconst (v := (3 : Int32)) (ft272 62 rfl) (by decide) ?_
        refine rn_iadd (ft272 63 rfl) ?_
        obtain ⟨x443, q444, h⟩ := ob_some h
        refine rn_ialoadS (ft272 64 rfl) q444 ?_
        refine rn_i2l (ft272 65 rfl) ?_
        refine rn_ldc2 (v := (4294967295 : Int64)) (ft272 66 rfl) (by decide) ?_
        refine rn_land (ft272 67 rfl) ?_
        refine rn_lor (ft272 68 rfl) ?_
        obtain ⟨g448, h⟩ := ifg h
        obtain ⟨p445, q446, h⟩ := ob_some h
        refine rn_callV (as := [.int x439, .long (((Int32.toInt64 x441) <<< (Int32.toInt64 (32 : Int32) &&& 63)) ||| ((Int32.toInt64 x443) &&& (4294967295 : Int64)))]) (k0 := v2) (r := [.int p437.1]) (v := (some (.int p445.1))) (w1 := p445.2) (ft272 69 rfl) (by decide +kernel) rfl (Nat.le_of_ble_eq_true rfl) (Nat.le_of_ble_eq_true rfl) (r110 n v2 x439 (((Int32.toInt64 x441) <<< (Int32.toInt64 (32 : Int32) &&& 63)) ||| ((Int32.toInt64 x443) &&& (4294967295 : Int64))) p437.2 _ q446) (by decide +kernel) g448 ?_
        by_cases c447 : p437.1 = p445.1
        · replace h := ifp c447 h
          refine rn_icmp_eq_t (ft272 70 rfl) c447 ?_
          refine rn_iinc (u := 6) (ls' := [some (.float 3), some (.ref v1), some (.ref v2), some (.int (v3 + (6 : Int32)))]) (ft272 839 rfl) rfl (by decide) rfl ?_
          refine rn_goto (ft272 840 rfl) ?_
          exact rn_forget (ls := [some (.float 3), some (.ref v1), some (.ref v2), some (.int (v3 + (6 : Int32)))]) (And.intro rfl (And.intro rfl (And.intro rfl (And.intro rfl trivial)))) (hrec10 v1 v2 (v3 + (6 : Int32)) p445.2 _ h)
        · replace h := ifn c447 h
          refine rn_icmp_eq_f (ft272 70 rfl) c447 ?_
          refine rn_iconst (v := (0 : Int32)) (ft272 71 rfl) (by decide) ?_
          cases h
          exact rn_iretZ pr272 (by decide) (ft272 72 rfl)
      · replace h := ifn c450 h
        by_cases c451 : (x5 &&& (31 : Int32)) = 1
        · replace h := ifp c451 h
          refine rn_sw_i (e := 194) (pc' := 227) (ft272 21 rfl) (by rw [c451]; decide) (by rw [c451]; rfl) (by decide) ?_
          refine rn_aload_n (ft272 73 rfl) rfl ?_
          obtain ⟨g430, h⟩ := ifg h
          obtain ⟨p424, q425, h⟩ := ob_some h
          refine rn_callV (as := []) (k0 := v1) (r := []) (v := (some (.int p424.1))) (w1 := p424.2) (ft272 74 rfl) (by decide +kernel) rfl (Nat.le_of_ble_eq_true rfl) (Nat.le_of_ble_eq_true rfl) (r247 n v1 w _ q425) (by decide +kernel) g430 ?_
          refine rn_aload_n (ft272 75 rfl) rfl ?_
          obtain ⟨g429, h⟩ := ifg h
          obtain ⟨p426, q427, h⟩ := ob_some h
          refine rn_callV (as := []) (k0 := v2) (r := [.int p424.1]) (v := (some (.int p426.1))) (w1 := p426.2) (ft272 76 rfl) (by decide +kernel) rfl (Nat.le_of_ble_eq_true rfl) (Nat.le_of_ble_eq_true rfl) (r243 n v2 p424.2 _ q427) (by decide +kernel) g429 ?_
          by_cases c428 : p424.1 = p426.1
          · replace h := ifp c428 h
            refine rn_icmp_eq_t (ft272 77 rfl) c428 ?_
            refine rn_iinc (u := 6) (ls' := [some (.float 3), some (.ref v1), some (.ref v2), some (.int (v3 + (6 : Int32)))]) (ft272 839 rfl) rfl (by decide) rfl ?_
            refine rn_goto (ft272 840 rfl) ?_
            exact rn_forget (ls := [some (.float 3), some (.ref v1), some (.ref v2), some (.int (v3 + (6 : Int32)))]) (And.intro rfl (And.intro rfl (And.intro rfl (And.intro rfl trivial)))) (hrec10 v1 v2 (v3 + (6 : Int32)) p426.2 _ h)
          · replace h := ifn c428 h
            refine rn_icmp_eq_f (ft272 77 rfl) c428 ?_
            refine rn_iconst (v := (0 : Int32)) (ft272 78 rfl) (by decide) ?_
            cases h
            exact rn_iretZ pr272 (by decide) (ft272 79 rfl)
        · replace h := ifn c451 h
          by_cases c452 : (x5 &&& (31 : Int32)) = 2
          · replace h := ifp c452 h
            refine rn_sw_i (e := 207) (pc' := 240) (ft272 21 rfl) (by rw [c452]; decide) (by rw [c452]; rfl) (by decide) ?_
            refine rn_aload_n (ft272 80 rfl) rfl ?_
            obtain ⟨g423, h⟩ := ifg h
            obtain ⟨p417, q418, h⟩ := ob_some h
            refine rn_callV (as := []) (k0 := v1) (r := []) (v := (some (.int p417.1))) (w1 := p417.2) (ft272 81 rfl) (by decide +kernel) rfl (Nat.le_of_ble_eq_true rfl) (Nat.le_of_ble_eq_true rfl) (r233 n v1 w _ q418) (by decide +kernel) g423 ?_
            refine rn_aload_n (ft272 82 rfl) rfl ?_
            obtain ⟨g422, h⟩ := ifg h
            obtain ⟨p419, q420, h⟩ := ob_some h
            refine rn_callV (as := []) (k0 := v2) (r := [.int p417.1]) (v := (some (.int p419.1))) (w1 := p419.2) (ft272 83 rfl) (by decide +kernel) rfl (Nat.le_of_ble_eq_true rfl) (Nat.le_of_ble_eq_true rfl) (r213 n v2 p417.2 _ q420) (by decide +kernel) g422 ?_
            by_cases c421 : p417.1 = p419.1
            · replace h := ifp c421 h
              refine rn_icmp_eq_t (ft272 84 rfl) c421 ?_
              refine rn_iinc (u := 6) (ls' := [some (.float 3), some (.ref v1), some (.ref v2), some (.int (v3 + (6 : Int32)))]) (ft272 839 rfl) rfl (by decide) rfl ?_
              refine rn_goto (ft272 840 rfl) ?_
              exact rn_forget (ls := [some (.float 3), some (.ref v1), some (.ref v2), some (.int (v3 + (6 : Int32)))]) (And.intro rfl (And.intro rfl (And.intro rfl (And.intro rfl trivial)))) (hrec10 v1 v2 (v3 + (6 : Int32)) p419.2 _ h)
            · replace h := ifn c421 h
              refine rn_icmp_eq_f (ft272 84 rfl) c421 ?_
              refine rn_iconst (v := (0 : Int32)) (ft272 85 rfl) (by decide) ?_
              cases h
              exact rn_iretZ pr272 (by decide) (ft272 86 rfl)
          · replace h := ifn c452 h
            by_cases c453 : (x5 &&& (31 : Int32)) = 3
            · replace h := ifp c453 h
              refine rn_sw_i (e := 220) (pc' := 253) (ft272 21 rfl) (by rw [c453]; decide) (by rw [c453]; rfl) (by decide) ?_
              refine rn_aload_n (ft272 87 rfl) rfl ?_
              obtain ⟨g416, h⟩ := ifg h
              obtain ⟨p410, q411, h⟩ := ob_some h
              refine rn_callV (as := []) (k0 := v1) (r := []) (v := (some (.int p410.1))) (w1 := p410.2) (ft272 88 rfl) (by decide +kernel) rfl (Nat.le_of_ble_eq_true rfl) (Nat.le_of_ble_eq_true rfl) (r18 v1 w _ q411) (by decide +kernel) g416 ?_
              refine rn_aload_n (ft272 89 rfl) rfl ?_
              obtain ⟨g415, h⟩ := ifg h
              obtain ⟨p412, q413, h⟩ := ob_some h
              refine rn_callV (as := []) (k0 := v2) (r := [.int p410.1]) (v := (some (.int p412.1))) (w1 := p412.2) (ft272 90 rfl) (by decide +kernel) rfl (Nat.le_of_ble_eq_true rfl) (Nat.le_of_ble_eq_true rfl) (r49 v2 p410.2 _ q413) (by decide +kernel) g415 ?_
              by_cases c414 : p410.1 = p412.1
              · replace h := ifp c414 h
                refine rn_icmp_eq_t (ft272 91 rfl) c414 ?_
                refine rn_iinc (u := 6) (ls' := [some (.float 3), some (.ref v1), some (.ref v2), some (.int (v3 + (6 : Int32)))]) (ft272 839 rfl) rfl (by decide) rfl ?_
                refine rn_goto (ft272 840 rfl) ?_
                exact rn_forget (ls := [some (.float 3), some (.ref v1), some (.ref v2), some (.int (v3 + (6 : Int32)))]) (And.intro rfl (And.intro rfl (And.intro rfl (And.intro rfl trivial)))) (hrec10 v1 v2 (v3 + (6 : Int32)) p412.2 _ h)
              · replace h := ifn c414 h
                refine rn_icmp_eq_f (ft272 91 rfl) c414 ?_
                refine rn_iconst (v := (0 : Int32)) (ft272 92 rfl) (by decide) ?_
                cases h
                exact rn_iretZ pr272 (by decide) (ft272 93 rfl)
            · replace h := ifn c453 h
              by_cases c454 : (x5 &&& (31 : Int32)) = 4
              · replace h := ifp c454 h
                refine rn_sw_i (e := 233) (pc' := 266) (ft272 21 rfl) (by rw [c454]; decide) (by rw [c454]; rfl) (by decide) ?_
                refine rn_aload_n (ft272 94 rfl) rfl ?_
                refine rn_aload_nS (ft272 95 rfl) rfl ?_
                refine rn_iload_n (ft272 96 rfl) rfl ?_
                refine rn_iconst (v := (1 : Int32)) (ft272 97 rfl) (by decide) ?_
                refine rn_iadd (ft272 98 rfl) ?_
                obtain ⟨x399, q400, h⟩ := ob_some h
                refine rn_ialoadS (ft272 99 rfl) q400 ?_
                obtain ⟨g409, h⟩ := ifg h
                obtain ⟨p401, q402, h⟩ := ob_some h
                refine rn_callV (as := [.int x399]) (k0 := v1) (r := []) (v := (some (.int p401.1))) (w1 := p401.2) (ft272 100 rfl) (by decide +kernel) rfl (Nat.le_of_ble_eq_true rfl) (Nat.le_of_ble_eq_true rfl) (r19 v1 x399 w _ q402) (by decide +kernel) g409 ?_
                refine rn_aload_n (ft272 101 rfl) rfl ?_
                refine rn_aload_nS (ft272 102 rfl) rfl ?_
                refine rn_iload_n (ft272 103 rfl) rfl ?_
                refine rn_iconst (v := (1 : Int32)) (ft272 104 rfl) (by decide) ?_
                refine rn_iadd (ft272 105 rfl) ?_
                obtain ⟨x403, q404, h⟩ := ob_some h
                refine rn_ialoadS (ft272 106 rfl) q404 ?_
                obtain ⟨g408, h⟩ := ifg h
                obtain ⟨p405, q406, h⟩ := ob_some h
                refine rn_callV (as := [.int x403]) (k0 := v2) (r := [.int p401.1]) (v := (some (.int p405.1))) (w1 := p405.2) (ft272 107 rfl) (by decide +kernel) rfl (Nat.le_of_ble_eq_true rfl) (Nat.le_of_ble_eq_true rfl) (r117 n v2 x403 p401.2 _ q406) (by decide +kernel) g408 ?_
                by_cases c407 : p401.1 = p405.1
                · replace h := ifp c407 h
                  refine rn_icmp_eq_t (ft272 108 rfl) c407 ?_
                  refine rn_iinc (u := 6) (ls' := [some (.float 3), some (.ref v1), some (.ref v2), some (.int (v3 + (6 : Int32)))]) (ft272 839 rfl) rfl (by decide) rfl ?_
                  refine rn_goto (ft272 840 rfl) ?_
                  exact rn_forget (ls := [some (.float 3), some (.ref v1), some (.ref v2), some (.int (v3 + (6 : Int32)))]) (And.intro rfl (And.intro rfl (And.intro rfl (And.intro rfl trivial)))) (hrec10 v1 v2 (v3 + (6 : Int32)) p405.2 _ h)
                · replace h := ifn c407 h
                  refine rn_icmp_eq_f (ft272 108 rfl) c407 ?_
                  refine rn_iconst (v := (0 : Int32)) (ft272 109 rfl) (by decide) ?_
                  cases h
                  exact rn_iretZ pr272 (by decide) (ft272 110 rfl)
              · replace h := ifn c454 h
                by_cases c455 : (x5 &&& (31 : Int32)) = 5
                · replace h := ifp c455 h
                  refine rn_sw_i (e := 256) (pc' := 289) (ft272 21 rfl) (by rw [c455]; decide) (by rw [c455]; rfl) (by decide) ?_
                  refine rn_aload_n (ft272 111 rfl) rfl ?_
                  refine rn_aload_nS (ft272 112 rfl) rfl ?_
                  refine rn_iload_n (ft272 113 rfl) rfl ?_
                  refine rn_iconst (v := (1 : Int32)) (ft272 114 rfl) (by decide) ?_
                  refine rn_iadd (ft272 115 rfl) ?_
                  obtain ⟨x384, q385, h⟩ := ob_some h
                  refine rn_ialoadS (ft272 116 rfl) q385 ?_
                  refine rn_aload_nS (ft272 117 rfl) rfl ?_
                  refine rn_iload_n (ft272 118 rfl) rfl ?_
                  refine rn_iconst (v := (2 : Int32)) (ft272 119 rfl) (by decide) ?_
                  refine rn_iadd (ft272 120 rfl) ?_
                  obtain ⟨x386, q387, h⟩ := ob_some h
                  refine rn_ialoadS (ft272 121 rfl) q387 ?_
                  obtain ⟨g398, h⟩ := ifg h
                  obtain ⟨p388, q389, h⟩ := ob_some h
                  refine rn_callV (as := [.int x384, .int x386]) (k0 := v1) (r := []) (v := (some (.int p388.1))) (w1 := p388.2) (ft272 122 rfl) (by decide +kernel) rfl (Nat.le_of_ble_eq_true rfl) (Nat.le_of_ble_eq_true rfl) (r180 n v1 x384 x386 w _ q389) (by decide +kernel) g398 ?_
                  refine rn_aload_n (ft272 123 rfl) rfl ?_
                  refine rn_aload_nS (ft272 124 rfl) rfl ?_
                  refine rn_iload_n (ft272 125 rfl) rfl ?_
                  refine rn_iconst (v := (1 : Int32)) (ft272 126 rfl) (by decide) ?_
                  refine rn_iadd (ft272 127 rfl) ?_
                  obtain ⟨x390, q391, h⟩ := ob_some h
                  refine rn_ialoadS (ft272 128 rfl) q391 ?_
                  refine rn_aload_nS (ft272 129 rfl) rfl ?_
                  refine rn_iload_n (ft272 130 rfl) rfl ?_
                  refine rn_iconst (v := (2 : Int32)) (ft272 131 rfl) (by decide) ?_
                  refine rn_iadd (ft272 132 rfl) ?_
                  obtain ⟨x392, q393, h⟩ := ob_some h
                  refine rn_ialoadS (ft272 133 rfl) q393 ?_
                  obtain ⟨g397, h⟩ := ifg h
                  obtain ⟨p394, q395, h⟩ := ob_some h
                  refine rn_callV (as := [.int x390, .int x392]) (k0 := v2) (r := [.int p388.1]) (v := (some (.int p394.1))) (w1 := p394.2) (ft272 134 rfl) (by decide +kernel) rfl (Nat.le_of_ble_eq_true rfl) (Nat.le_of_ble_eq_true rfl) (r164 n v2 x390 x392 p388.2 _ q395) (by decide +kernel) g397 ?_
                  by_cases c396 : p388.1 = p394.1
                  · replace h := ifp c396 h
                    refine rn_icmp_eq_t (ft272 135 rfl) c396 ?_
                    refine rn_iinc (u := 6) (ls' := [some (.float 3), some (.ref v1), some (.ref v2), some (.int (v3 + (6 : Int32)))]) (ft272 839 rfl) rfl (by decide) rfl ?_
                    refine rn_goto (ft272 840 rfl) ?_
                    exact rn_forget (ls := [some (.float 3), some (.ref v1), some (.ref v2), some (.int (v3 + (6 : Int32)))]) (And.intro rfl (And.intro rfl (And.intro rfl (And.intro rfl trivial)))) (hrec10 v1 v2 (v3 + (6 : Int32)) p394.2 _ h)
                  · replace h := ifn c396 h
                    refine rn_icmp_eq_f (ft272 135 rfl) c396 ?_
                    refine rn_iconst (v := (0 : Int32)) (ft272 136 rfl) (by decide) ?_
                    cases h
                    exact rn_iretZ pr272 (by decide) (ft272 137 rfl)
                · replace h := ifn c455 h
                  by_cases c456 : (x5 &&& (31 : Int32)) = 6
                  · replace h := ifp c456 h
                    refine rn_sw_i (e := 289) (pc' := 322) (ft272 21 rfl) (by rw [c456]; decide) (by rw [c456]; rfl) (by decide) ?_
                    refine rn_aload_n (ft272 138 rfl) rfl ?_
                    refine rn_aload_nS (ft272 139 rfl) rfl ?_
                    refine rn_iload_n (ft272 140 rfl) rfl ?_
                    refine rn_iconst (v := (1 : Int32)) (ft272 141 rfl) (by decide) ?_
                    refine rn_iadd (ft272 142 rfl) ?_
                    obtain ⟨x369, q370, h⟩ := ob_some h
                    refine rn_ialoadS (ft272 143 rfl) q370 ?_
                    refine rn_aload_nS (ft272 144 rfl) rfl ?_
                    refine rn_iload_n (ft272 145 rfl) rfl ?_
                    refine rn_iconst (v := (2 : Int32)) (ft272 146 rfl) (by decide) ?_
                    refine rn_iadd (ft272 147 rfl) ?_
                    obtain ⟨x371, q372, h⟩ := ob_some h
                    refine rn_ialoadS (ft272 148 rfl) q372 ?_
                    obtain ⟨g383, h⟩ := ifg h
                    obtain ⟨p373, q374, h⟩ := ob_some h
                    refine rn_callV (as := [.int x369, .int x371]) (k0 := v1) (r := []) (v := (some (.int p373.1))) (w1 := p373.2) (ft272 149 rfl) (by decide +kernel) rfl (Nat.le_of_ble_eq_true rfl) (Nat.le_of_ble_eq_true rfl) (r144 v1 x369 x371 w _ q374) (by decide +kernel) g383 ?_
                    refine rn_aload_n (ft272 150 rfl) rfl ?_
                    refine rn_aload_nS (ft272 151 rfl) rfl ?_
                    refine rn_iload_n (ft272 152 rfl) rfl ?_
                    refine rn_iconst (v := (1 : Int32)) (ft272 153 rfl) (by decide) ?_
                    refine rn_iadd (ft272 154 rfl) ?_
                    obtain ⟨x375, q376, h⟩ := ob_some h
                    refine rn_ialoadS (ft272 155 rfl) q376 ?_
                    refine rn_aload_nS (ft272 156 rfl) rfl ?_
                    refine rn_iload_n (ft272 157 rfl) rfl ?_
                    refine rn_iconst (v := (2 : Int32)) (ft272 158 rfl) (by decide) ?_
                    refine rn_iadd (ft272 159 rfl) ?_
                    obtain ⟨x377, q378, h⟩ := ob_some h
                    refine rn_ialoadS (ft272 160 rfl) q378 ?_
                    obtain ⟨g382, h⟩ := ifg h
                    obtain ⟨p379, q380, h⟩ := ob_some h
                    refine rn_callV (as := [.int x375, .int x377]) (k0 := v2) (r := [.int p373.1]) (v := (some (.int p379.1))) (w1 := p379.2) (ft272 161 rfl) (by decide +kernel) rfl (Nat.le_of_ble_eq_true rfl) (Nat.le_of_ble_eq_true rfl) (r165 v2 x375 x377 p373.2 _ q380) (by decide +kernel) g382 ?_
                    by_cases c381 : p373.1 = p379.1
                    · replace h := ifp c381 h
                      refine rn_icmp_eq_t (ft272 162 rfl) c381 ?_
                      refine rn_iinc (u := 6) (ls' := [some (.float 3), some (.ref v1), some (.ref v2), some (.int (v3 + (6 : Int32)))]) (ft272 839 rfl) rfl (by decide) rfl ?_
                      refine rn_goto (ft272 840 rfl) ?_
                      exact rn_forget (ls := [some (.float 3), some (.ref v1), some (.ref v2), some (.int (v3 + (6 : Int32)))]) (And.intro rfl (And.intro rfl (And.intro rfl (And.intro rfl trivial)))) (hrec10 v1 v2 (v3 + (6 : Int32)) p379.2 _ h)
                    · replace h := ifn c381 h
                      refine rn_icmp_eq_f (ft272 162 rfl) c381 ?_
                      refine rn_iconst (v := (0 : Int32)) (ft272 163 rfl) (by decide) ?_
                      cases h
                      exact rn_iretZ pr272 (by decide) (ft272 164 rfl)
                  · replace h := ifn c456 h
                    by_cases c457 : (x5 &&& (31 : Int32)) = 7
                    · replace h := ifp c457 h
                      refine rn_sw_i (e := 322) (pc' := 355) (ft272 21 rfl) (by rw [c457]; decide) (by rw [c457]; rfl) (by decide) ?_
                      refine rn_aload_n (ft272 165 rfl) rfl ?_
                      refine rn_aload_nS (ft272 166 rfl) rfl ?_
                      refine rn_iload_n (ft272 167 rfl) rfl ?_
                      refine rn_iconst (v := (1 : Int32)) (ft272 168 rfl) (by decide) ?_
                      refine rn_iadd (ft272 169 rfl) ?_
                      obtain ⟨x342, q343, h⟩ := ob_some h
                      refine rn_ialoadS (ft272 170 rfl) q343 ?_
                      refine rn_aload_nS (ft272 171 rfl) rfl ?_
                      refine rn_iload_n (ft272 172 rfl) rfl ?_
                      refine rn_iconst (v := (2 : Int32)) (ft272 173 rfl) (by decide) ?_
                      refine rn_iadd (ft272 174 rfl) ?_
                      obtain ⟨x344, q345, h⟩ := ob_some h
                      refine rn_ialoadS (ft272 175 rfl) q345 ?_
                      refine rn_aload_nS (ft272 176 rfl) rfl ?_
                      refine rn_iload_n (ft272 177 rfl) rfl ?_
                      refine rn_iconst (v := (3 : Int32)) (ft272 178 rfl) (by decide) ?_
                      refine rn_iadd (ft272 179 rfl) ?_
                      obtain ⟨x346, q347, h⟩ := ob_some h
                      refine rn_ialoadS (ft272 180 rfl) q347 ?_
                      refine rn_aload_nS (ft272 181 rfl) rfl ?_
                      refine rn_iload_n (ft272 182 rfl) rfl ?_
                      refine rn_iconst (v := (4 : Int32)) (ft272 183 rfl) (by decide) ?_
                      refine rn_iadd (ft272 184 rfl) ?_
                      obtain ⟨x348, q349, h⟩ := ob_some h
                      refine rn_ialoadS (ft272 185 rfl) q349 ?_
                      refine rn_aload_nS (ft272 186 rfl) rfl ?_
                      refine rn_iload_n (ft272 187 rfl) rfl ?_
                      refine rn_iconst (v := (5 : Int32)) (ft272 188 rfl) (by decide) ?_
                      refine rn_iadd (ft272 189 rfl) ?_
                      obtain ⟨x350, q351, h⟩ := ob_some h
                      refine rn_ialoadS (ft272 190 rfl) q351 ?_
                      obtain ⟨g368, h⟩ := ifg h
                      obtain ⟨p352, q353, h⟩ := ob_some h
                      refine rn_callV (as := [.int x342, .int x344, .int x346, .int x348, .int x350]) (k0 := v1) (r := []) (v := (some (.int p352.1))) (w1 := p352.2) (ft272 191 rfl) (by decide +kernel) rfl (Nat.le_of_ble_eq_true rfl) (Nat.le_of_ble_eq_true rfl) (r181 v1 x342 x344 x346 x348 x350 w _ q353) (by decide +kernel) g368 ?_
                      refine rn_aload_n (ft272 192 rfl) rfl ?_
                      refine rn_aload_nS (ft272 193 rfl) rfl ?_
                      refine rn_iload_n (ft272 194 rfl) rfl ?_
                      refine rn_iconst (v := (1 : Int32)) (ft272 195 rfl) (by decide) ?_
                      refine rn_iadd (ft272 196 rfl) ?_
                      obtain ⟨x354, q355, h⟩ := ob_some h
                      refine rn_ialoadS (ft272 197 rfl) q355 ?_
                      refine rn_aload_nS (ft272 198 rfl) rfl ?_
                      refine rn_iload_n (ft272 199 rfl) rfl ?_
                      refine rn_iconst (v := (2 : Int32)) (ft272 200 rfl) (by decide) ?_
                      refine rn_iadd (ft272 201 rfl) ?_
                      obtain ⟨x356, q357, h⟩ := ob_some h
                      refine rn_ialoadS (ft272 202 rfl) q357 ?_
                      refine rn_aload_nS (ft272 203 rfl) rfl ?_
                      refine rn_iload_n (ft272 204 rfl) rfl ?_
                      refine rn_iconst (v := (3 : Int32)) (ft272 205 rfl) (by decide) ?_
                      refine rn_iadd (ft272 206 rfl) ?_
                      obtain ⟨x358, q359, h⟩ := ob_some h
                      refine rn_ialoadS (ft272 207 rfl) q359 ?_
                      refine rn_aload_nS (ft272 208 rfl) rfl ?_
                      refine rn_iload_n (ft272 209 rfl) rfl ?_
                      refine rn_iconst (v := (4 : Int32)) (ft272 210 rfl) (by decide) ?_
                      refine rn_iadd (ft272 211 rfl) ?_
                      obtain ⟨x360, q361, h⟩ := ob_some h
                      refine rn_ialoadS (ft272 212 rfl) q361 ?_
                      refine rn_aload_nS (ft272 213 rfl) rfl ?_
                      refine rn_iload_n (ft272 214 rfl) rfl ?_
                      refine rn_iconst (v := (5 : Int32)) (ft272 215 rfl) (by decide) ?_
                      refine rn_iadd (ft272 216 rfl) ?_
                      obtain ⟨x362, q363, h⟩ := ob_some h
                      refine rn_ialoadS (ft272 217 rfl) q363 ?_
                      obtain ⟨g367, h⟩ := ifg h
                      obtain ⟨p364, q365, h⟩ := ob_some h
                      refine rn_callV (as := [.int x354, .int x356, .int x358, .int x360, .int x362]) (k0 := v2) (r := [.int p352.1]) (v := (some (.int p364.1))) (w1 := p364.2) (ft272 218 rfl) (by decide +kernel) rfl (Nat.le_of_ble_eq_true rfl) (Nat.le_of_ble_eq_true rfl) (r190 v2 x354 x356 x358 x360 x362 p352.2 _ q365) (by decide +kernel) g367 ?_
                      by_cases c366 : p352.1 = p364.1
                      · replace h := ifp c366 h
                        refine rn_icmp_eq_t (ft272 219 rfl) c366 ?_
                        refine rn_iinc (u := 6) (ls' := [some (.float 3), some (.ref v1), some (.ref v2), some (.int (v3 + (6 : Int32)))]) (ft272 839 rfl) rfl (by decide) rfl ?_
                        refine rn_goto (ft272 840 rfl) ?_
                        exact rn_forget (ls := [some (.float 3), some (.ref v1), some (.ref v2), some (.int (v3 + (6 : Int32)))]) (And.intro rfl (And.intro rfl (And.intro rfl (And.intro rfl trivial)))) (hrec10 v1 v2 (v3 + (6 : Int32)) p364.2 _ h)
                      · replace h := ifn c366 h
                        refine rn_icmp_eq_f (ft272 219 rfl) c366 ?_
                        refine rn_iconst (v := (0 : Int32)) (ft272 220 rfl) (by decide) ?_
                        cases h
                        exact rn_iretZ pr272 (by decide) (ft272 221 rfl)
                    · replace h := ifn c457 h
                      by_cases c458 : (x5 &&& (31 : Int32)) = 8
                      · replace h := ifp c458 h
                        refine rn_sw_i (e := 385) (pc' := 418) (ft272 21 rfl) (by rw [c458]; decide) (by rw [c458]; rfl) (by decide) ?_
                        refine rn_aload_n (ft272 222 rfl) rfl ?_
                        refine rn_aload_nS (ft272 223 rfl) rfl ?_
                        refine rn_iload_n (ft272 224 rfl) rfl ?_
                        refine rn_iconst (v := (1 : Int32)) (ft272 225 rfl) (by decide) ?_
                        refine rn_iadd (ft272 226 rfl) ?_
                        obtain ⟨x323, q324, h⟩ := ob_some h
                        refine rn_ialoadS (ft272 227 rfl) q324 ?_
                        refine rn_aload_nS (ft272 228 rfl) rfl ?_
                        refine rn_iload_n (ft272 229 rfl) rfl ?_
                        refine rn_iconst (v := (2 : Int32)) (ft272 230 rfl) (by decide) ?_
                        refine rn_iadd (ft272 231 rfl) ?_
                        obtain ⟨x325, q326, h⟩ := ob_some h
                        refine rn_ialoadS (ft272 232 rfl) q326 ?_
                        refine rn_aload_nS (ft272 233 rfl) rfl ?_
                        refine rn_iload_n (ft272 234 rfl) rfl ?_
                        refine rn_iconst (v := (3 : Int32)) (ft272 235 rfl) (by decide) ?_
                        refine rn_iadd (ft272 236 rfl) ?_
                        obtain ⟨x327, q328, h⟩ := ob_some h
                        refine rn_ialoadS (ft272 237 rfl) q328 ?_
                        obtain ⟨g341, h⟩ := ifg h
                        obtain ⟨p329, q330, h⟩ := ob_some h
                        refine rn_callV (as := [.int x323, .int x325, .int x327]) (k0 := v1) (r := []) (v := (some (.int p329.1))) (w1 := p329.2) (ft272 238 rfl) (by decide +kernel) rfl (Nat.le_of_ble_eq_true rfl) (Nat.le_of_ble_eq_true rfl) (r146 v1 x323 x325 x327 w _ q330) (by decide +kernel) g341 ?_
                        refine rn_aload_n (ft272 239 rfl) rfl ?_
                        refine rn_aload_nS (ft272 240 rfl) rfl ?_
                        refine rn_iload_n (ft272 241 rfl) rfl ?_
                        refine rn_iconst (v := (1 : Int32)) (ft272 242 rfl) (by decide) ?_
                        refine rn_iadd (ft272 243 rfl) ?_
                        obtain ⟨x331, q332, h⟩ := ob_some h
                        refine rn_ialoadS (ft272 244 rfl) q332 ?_
                        refine rn_aload_nS (ft272 245 rfl) rfl ?_
                        refine rn_iload_n (ft272 246 rfl) rfl ?_
                        refine rn_iconst (v := (2 : Int32)) (ft272 247 rfl) (by decide) ?_
                        refine rn_iadd (ft272 248 rfl) ?_
                        obtain ⟨x333, q334, h⟩ := ob_some h
                        refine rn_ialoadS (ft272 249 rfl) q334 ?_
                        refine rn_aload_nS (ft272 250 rfl) rfl ?_
                        refine rn_iload_n (ft272 251 rfl) rfl ?_
                        refine rn_iconst (v := (3 : Int32)) (ft272 252 rfl) (by decide) ?_
                        refine rn_iadd (ft272 253 rfl) ?_
                        obtain ⟨x335, q336, h⟩ := ob_some h
                        refine rn_ialoadS (ft272 254 rfl) q336 ?_
                        obtain ⟨g340, h⟩ := ifg h
                        obtain ⟨p337, q338, h⟩ := ob_some h
                        refine rn_callV (as := [.int x331, .int x333, .int x335]) (k0 := v2) (r := [.int p329.1]) (v := (some (.int p337.1))) (w1 := p337.2) (ft272 255 rfl) (by decide +kernel) rfl (Nat.le_of_ble_eq_true rfl) (Nat.le_of_ble_eq_true rfl) (r167 v2 x331 x333 x335 p329.2 _ q338) (by decide +kernel) g340 ?_
                        by_cases c339 : p329.1 = p337.1
                        · replace h := ifp c339 h
                          refine rn_icmp_eq_t (ft272 256 rfl) c339 ?_
                          refine rn_iinc (u := 6) (ls' := [some (.float 3), some (.ref v1), some (.ref v2), some (.int (v3 + (6 : Int32)))]) (ft272 839 rfl) rfl (by decide) rfl ?_
                          refine rn_goto (ft272 840 rfl) ?_
                          exact rn_forget (ls := [some (.float 3), some (.ref v1), some (.ref v2), some (.int (v3 + (6 : Int32)))]) (And.intro rfl (And.intro rfl (And.intro rfl (And.intro rfl trivial)))) (hrec10 v1 v2 (v3 + (6 : Int32)) p337.2 _ h)
                        · replace h := ifn c339 h
                          refine rn_icmp_eq_f (ft272 256 rfl) c339 ?_
                          refine rn_iconst (v := (0 : Int32)) (ft272 257 rfl) (by decide) ?_
                          cases h
                          exact rn_iretZ pr272 (by decide) (ft272 258 rfl)
                      · replace h := ifn c458 h
                        by_cases c459 : (x5 &&& (31 : Int32)) = 9
                        · replace h := ifp c459 h
                          refine rn_sw_i (e := 428) (pc' := 461) (ft272 21 rfl) (by rw [c459]; decide) (by rw [c459]; rfl) (by decide) ?_
                          refine rn_aload_n (ft272 259 rfl) rfl ?_
                          refine rn_aload_nS (ft272 260 rfl) rfl ?_
                          refine rn_iload_n (ft272 261 rfl) rfl ?_
                          refine rn_iconst (v := (1 : Int32)) (ft272 262 rfl) (by decide) ?_
                          refine rn_iadd (ft272 263 rfl) ?_
                          obtain ⟨x304, q305, h⟩ := ob_some h
                          refine rn_ialoadS (ft272 264 rfl) q305 ?_
                          refine rn_aload_nS (ft272 265 rfl) rfl ?_
                          refine rn_iload_n (ft272 266 rfl) rfl ?_
                          refine rn_iconst (v := (2 : Int32)) (ft272 267 rfl) (by decide) ?_
                          refine rn_iadd (ft272 268 rfl) ?_
                          obtain ⟨x306, q307, h⟩ := ob_some h
                          refine rn_ialoadS (ft272 269 rfl) q307 ?_
                          refine rn_aload_nS (ft272 270 rfl) rfl ?_
                          refine rn_iload_n (ft272 271 rfl) rfl ?_
                          refine rn_iconst (v := (3 : Int32)) (ft272 272 rfl) (by decide) ?_
                          refine rn_iadd (ft272 273 rfl) ?_
                          obtain ⟨x308, q309, h⟩ := ob_some h
                          refine rn_ialoadS (ft272 274 rfl) q309 ?_
                          obtain ⟨g322, h⟩ := ifg h
                          obtain ⟨p310, q311, h⟩ := ob_some h
                          refine rn_callV (as := [.int x304, .int x306, .int x308]) (k0 := v1) (r := []) (v := (some (.int p310.1))) (w1 := p310.2) (ft272 275 rfl) (by decide +kernel) rfl (Nat.le_of_ble_eq_true rfl) (Nat.le_of_ble_eq_true rfl) (r219 n v1 x304 x306 x308 w _ q311) (by decide +kernel) g322 ?_
                          refine rn_aload_n (ft272 276 rfl) rfl ?_
                          refine rn_aload_nS (ft272 277 rfl) rfl ?_
                          refine rn_iload_n (ft272 278 rfl) rfl ?_
                          refine rn_iconst (v := (1 : Int32)) (ft272 279 rfl) (by decide) ?_
                          refine rn_iadd (ft272 280 rfl) ?_
                          obtain ⟨x312, q313, h⟩ := ob_some h
                          refine rn_ialoadS (ft272 281 rfl) q313 ?_
                          refine rn_aload_nS (ft272 282 rfl) rfl ?_
                          refine rn_iload_n (ft272 283 rfl) rfl ?_
                          refine rn_iconst (v := (2 : Int32)) (ft272 284 rfl) (by decide) ?_
                          refine rn_iadd (ft272 285 rfl) ?_
                          obtain ⟨x314, q315, h⟩ := ob_some h
                          refine rn_ialoadS (ft272 286 rfl) q315 ?_
                          refine rn_aload_nS (ft272 287 rfl) rfl ?_
                          refine rn_iload_n (ft272 288 rfl) rfl ?_
                          refine rn_iconst (v := (3 : Int32)) (ft272 289 rfl) (by decide) ?_
                          refine rn_iadd (ft272 290 rfl) ?_
                          obtain ⟨x316, q317, h⟩ := ob_some h
                          refine rn_ialoadS (ft272 291 rfl) q317 ?_
                          obtain ⟨g321, h⟩ := ifg h
                          obtain ⟨p318, q319, h⟩ := ob_some h
                          refine rn_callV (as := [.int x312, .int x314, .int x316]) (k0 := v2) (r := [.int p310.1]) (v := (some (.int p318.1))) (w1 := p318.2) (ft272 292 rfl) (by decide +kernel) rfl (Nat.le_of_ble_eq_true rfl) (Nat.le_of_ble_eq_true rfl) (r212 n v2 x312 x314 x316 p310.2 _ q319) (by decide +kernel) g321 ?_
                          by_cases c320 : p310.1 = p318.1
                          · replace h := ifp c320 h
                            refine rn_icmp_eq_t (ft272 293 rfl) c320 ?_
                            refine rn_iinc (u := 6) (ls' := [some (.float 3), some (.ref v1), some (.ref v2), some (.int (v3 + (6 : Int32)))]) (ft272 839 rfl) rfl (by decide) rfl ?_
                            refine rn_goto (ft272 840 rfl) ?_
                            exact rn_forget (ls := [some (.float 3), some (.ref v1), some (.ref v2), some (.int (v3 + (6 : Int32)))]) (And.intro rfl (And.intro rfl (And.intro rfl (And.intro rfl trivial)))) (hrec10 v1 v2 (v3 + (6 : Int32)) p318.2 _ h)
                          · replace h := ifn c320 h
                            refine rn_icmp_eq_f (ft272 293 rfl) c320 ?_
                            refine rn_iconst (v := (0 : Int32)) (ft272 294 rfl) (by decide) ?_
                            cases h
                            exact rn_iretZ pr272 (by decide) (ft272 295 rfl)
                        · replace h := ifn c459 h
                          by_cases c460 : (x5 &&& (31 : Int32)) = 10
                          · replace h := ifp c460 h
                            refine rn_sw_i (e := 471) (pc' := 504) (ft272 21 rfl) (by rw [c460]; decide) (by rw [c460]; rfl) (by decide) ?_
                            refine rn_aload_n (ft272 296 rfl) rfl ?_
                            refine rn_aload_nS (ft272 297 rfl) rfl ?_
                            refine rn_iload_n (ft272 298 rfl) rfl ?_
                            refine rn_iconst (v := (1 : Int32)) (ft272 299 rfl) (by decide) ?_
                            refine rn_iadd (ft272 300 rfl) ?_
                            obtain ⟨x281, q282, h⟩ := ob_some h
                            refine rn_ialoadS (ft272 301 rfl) q282 ?_
                            refine rn_aload_nS (ft272 302 rfl) rfl ?_
                            refine rn_iload_n (ft272 303 rfl) rfl ?_
                            refine rn_iconst (v := (2 : Int32)) (ft272 304 rfl) (by decide) ?_
                            refine rn_iadd (ft272 305 rfl) ?_
                            obtain ⟨x283, q284, h⟩ := ob_some h
                            refine rn_ialoadS (ft272 306 rfl) q284 ?_
                            refine rn_aload_nS (ft272 307 rfl) rfl ?_
                            refine rn_iload_n (ft272 308 rfl) rfl ?_
                            refine rn_iconst (v := (3 : Int32)) (ft272 309 rfl) (by decide) ?_
                            refine rn_iadd (ft272 310 rfl) ?_
                            obtain ⟨x285, q286, h⟩ := ob_some h
                            refine rn_ialoadS (ft272 311 rfl) q286 ?_
                            refine rn_aload_nS (ft272 312 rfl) rfl ?_
                            refine rn_iload_n (ft272 313 rfl) rfl ?_
                            refine rn_iconst (v := (4 : Int32)) (ft272 314 rfl) (by decide) ?_
                            refine rn_iadd (ft272 315 rfl) ?_
                            obtain ⟨x287, q288, h⟩ := ob_some h
                            refine rn_ialoadS (ft272 316 rfl) q288 ?_
                            obtain ⟨g303, h⟩ := ifg h
                            obtain ⟨p289, q290, h⟩ := ob_some h
                            refine rn_callV (as := [.int x281, .int x283, .int x285, .int x287]) (k0 := v1) (r := []) (v := (some (.int p289.1))) (w1 := p289.2) (ft272 317 rfl) (by decide +kernel) rfl (Nat.le_of_ble_eq_true rfl) (Nat.le_of_ble_eq_true rfl) (r220 n v1 x281 x283 x285 x287 w _ q290) (by decide +kernel) g303 ?_
                            refine rn_aload_n (ft272 318 rfl) rfl ?_
                            refine rn_aload_nS (ft272 319 rfl) rfl ?_
                            refine rn_iload_n (ft272 320 rfl) rfl ?_
                            refine rn_iconst (v := (1 : Int32)) (ft272 321 rfl) (by decide) ?_
                            refine rn_iadd (ft272 322 rfl) ?_
                            obtain ⟨x291, q292, h⟩ := ob_some h
                            refine rn_ialoadS (ft272 323 rfl) q292 ?_
                            refine rn_aload_nS (ft272 324 rfl) rfl ?_
                            refine rn_iload_n (ft272 325 rfl) rfl ?_
                            refine rn_iconst (v := (2 : Int32)) (ft272 326 rfl) (by decide) ?_
                            refine rn_iadd (ft272 327 rfl) ?_
                            obtain ⟨x293, q294, h⟩ := ob_some h
                            refine rn_ialoadS (ft272 328 rfl) q294 ?_
                            refine rn_aload_nS (ft272 329 rfl) rfl ?_
                            refine rn_iload_n (ft272 330 rfl) rfl ?_
                            refine rn_iconst (v := (3 : Int32)) (ft272 331 rfl) (by decide) ?_
                            refine rn_iadd (ft272 332 rfl) ?_
                            obtain ⟨x295, q296, h⟩ := ob_some h
                            refine rn_ialoadS (ft272 333 rfl) q296 ?_
                            refine rn_aload_nS (ft272 334 rfl) rfl ?_
                            refine rn_iload_n (ft272 335 rfl) rfl ?_
                            refine rn_iconst (v := (4 : Int32)) (ft272 336 rfl) (by decide) ?_
                            refine rn_iadd (ft272 337 rfl) ?_
                            obtain ⟨x297, q298, h⟩ := ob_some h
                            refine rn_ialoadS (ft272 338 rfl) q298 ?_
                            obtain ⟨g302, h⟩ := ifg h
                            obtain ⟨p299, q300, h⟩ := ob_some h
                            refine rn_callV (as := [.int x291, .int x293, .int x295, .int x297]) (k0 := v2) (r := [.int p289.1]) (v := (some (.int p299.1))) (w1 := p299.2) (ft272 339 rfl) (by decide +kernel) rfl (Nat.le_of_ble_eq_true rfl) (Nat.le_of_ble_eq_true rfl) (r227 n v2 x291 x293 x295 x297 p289.2 _ q300) (by decide +kernel) g302 ?_
                            by_cases c301 : p289.1 = p299.1
                            · replace h := ifp c301 h
                              refine rn_icmp_eq_t (ft272 340 rfl) c301 ?_
                              refine rn_iinc (u := 6) (ls' := [some (.float 3), some (.ref v1), some (.ref v2), some (.int (v3 + (6 : Int32)))]) (ft272 839 rfl) rfl (by decide) rfl ?_
                              refine rn_goto (ft272 840 rfl) ?_
                              exact rn_forget (ls := [some (.float 3), some (.ref v1), some (.ref v2), some (.int (v3 + (6 : Int32)))]) (And.intro rfl (And.intro rfl (And.intro rfl (And.intro rfl trivial)))) (hrec10 v1 v2 (v3 + (6 : Int32)) p299.2 _ h)
                            · replace h := ifn c301 h
                              refine rn_icmp_eq_f (ft272 340 rfl) c301 ?_
                              refine rn_iconst (v := (0 : Int32)) (ft272 341 rfl) (by decide) ?_
                              cases h
                              exact rn_iretZ pr272 (by decide) (ft272 342 rfl)
                          · replace h := ifn c460 h
                            by_cases c461 : (x5 &&& (31 : Int32)) = 11
                            · replace h := ifp c461 h
                              refine rn_sw_i (e := 524) (pc' := 557) (ft272 21 rfl) (by rw [c461]; decide) (by rw [c461]; rfl) (by decide) ?_
                              refine rn_aload_n (ft272 343 rfl) rfl ?_
                              refine rn_aload_nS (ft272 344 rfl) rfl ?_
                              refine rn_iload_n (ft272 345 rfl) rfl ?_
                              refine rn_iconst (v := (1 : Int32)) (ft272 346 rfl) (by decide) ?_
                              refine rn_iadd (ft272 347 rfl) ?_
                              obtain ⟨x266, q267, h⟩ := ob_some h
                              refine rn_ialoadS (ft272 348 rfl) q267 ?_
                              refine rn_aload_nS (ft272 349 rfl) rfl ?_
                              refine rn_iload_n (ft272 350 rfl) rfl ?_
                              refine rn_iconst (v := (2 : Int32)) (ft272 351 rfl) (by decide) ?_
                              refine rn_iadd (ft272 352 rfl) ?_
                              obtain ⟨x268, q269, h⟩ := ob_some h
                              refine rn_ialoadS (ft272 353 rfl) q269 ?_
                              obtain ⟨g280, h⟩ := ifg h
                              obtain ⟨p270, q271, h⟩ := ob_some h
                              refine rn_callV (as := [.int x266, .int x268]) (k0 := v1) (r := []) (v := (some (.int p270.1))) (w1 := p270.2) (ft272 354 rfl) (by decide +kernel) rfl (Nat.le_of_ble_eq_true rfl) (Nat.le_of_ble_eq_true rfl) (r234 n v1 x266 x268 w _ q271) (by decide +kernel) g280 ?_
                              refine rn_aload_n (ft272 355 rfl) rfl ?_
                              refine rn_aload_nS (ft272 356 rfl) rfl ?_
                              refine rn_iload_n (ft272 357 rfl) rfl ?_
                              refine rn_iconst (v := (1 : Int32)) (ft272 358 rfl) (by decide) ?_
                              refine rn_iadd (ft272 359 rfl) ?_
                              obtain ⟨x272, q273, h⟩ := ob_some h
                              refine rn_ialoadS (ft272 360 rfl) q273 ?_
                              refine rn_aload_nS (ft272 361 rfl) rfl ?_
                              refine rn_iload_n (ft272 362 rfl) rfl ?_
                              refine rn_iconst (v := (2 : Int32)) (ft272 363 rfl) (by decide) ?_
                              refine rn_iadd (ft272 364 rfl) ?_
                              obtain ⟨x274, q275, h⟩ := ob_some h
                              refine rn_ialoadS (ft272 365 rfl) q275 ?_
                              obtain ⟨g279, h⟩ := ifg h
                              obtain ⟨p276, q277, h⟩ := ob_some h
                              refine rn_callV (as := [.int x272, .int x274]) (k0 := v2) (r := [.int p270.1]) (v := (some (.int p276.1))) (w1 := p276.2) (ft272 366 rfl) (by decide +kernel) rfl (Nat.le_of_ble_eq_true rfl) (Nat.le_of_ble_eq_true rfl) (r248 n v2 x272 x274 p270.2 _ q277) (by decide +kernel) g279 ?_
                              by_cases c278 : p270.1 = p276.1
                              · replace h := ifp c278 h
                                refine rn_icmp_eq_t (ft272 367 rfl) c278 ?_
                                refine rn_iinc (u := 6) (ls' := [some (.float 3), some (.ref v1), some (.ref v2), some (.int (v3 + (6 : Int32)))]) (ft272 839 rfl) rfl (by decide) rfl ?_
                                refine rn_goto (ft272 840 rfl) ?_
                                exact rn_forget (ls := [some (.float 3), some (.ref v1), some (.ref v2), some (.int (v3 + (6 : Int32)))]) (And.intro rfl (And.intro rfl (And.intro rfl (And.intro rfl trivial)))) (hrec10 v1 v2 (v3 + (6 : Int32)) p276.2 _ h)
                              · replace h := ifn c278 h
                                refine rn_icmp_eq_f (ft272 367 rfl) c278 ?_
                                refine rn_iconst (v := (0 : Int32)) (ft272 368 rfl) (by decide) ?_
                                cases h
                                exact rn_iretZ pr272 (by decide) (ft272 369 rfl)
                            · replace h := ifn c461 h
                              by_cases c462 : (x5 &&& (31 : Int32)) = 12
                              · replace h := ifp c462 h
                                refine rn_sw_i (e := 557) (pc' := 590) (ft272 21 rfl) (by rw [c462]; decide) (by rw [c462]; rfl) (by decide) ?_
                                refine rn_aload_n (ft272 370 rfl) rfl ?_
                                refine rn_aload_nS (ft272 371 rfl) rfl ?_
                                refine rn_iload_n (ft272 372 rfl) rfl ?_
                                refine rn_iconst (v := (1 : Int32)) (ft272 373 rfl) (by decide) ?_
                                refine rn_iadd (ft272 374 rfl) ?_
                                obtain ⟨x247, q248, h⟩ := ob_some h
                                refine rn_ialoadS (ft272 375 rfl) q248 ?_
                                refine rn_aload_nS (ft272 376 rfl) rfl ?_
                                refine rn_iload_n (ft272 377 rfl) rfl ?_
                                refine rn_iconst (v := (2 : Int32)) (ft272 378 rfl) (by decide) ?_
                                refine rn_iadd (ft272 379 rfl) ?_
                                obtain ⟨x249, q250, h⟩ := ob_some h
                                refine rn_ialoadS (ft272 380 rfl) q250 ?_
                                refine rn_aload_nS (ft272 381 rfl) rfl ?_
                                refine rn_iload_n (ft272 382 rfl) rfl ?_
                                refine rn_iconst (v := (3 : Int32)) (ft272 383 rfl) (by decide) ?_
                                refine rn_iadd (ft272 384 rfl) ?_
                                obtain ⟨x251, q252, h⟩ := ob_some h
                                refine rn_ialoadS (ft272 385 rfl) q252 ?_
                                obtain ⟨g265, h⟩ := ifg h
                                obtain ⟨p253, q254, h⟩ := ob_some h
                                refine rn_callV (as := [.int x247, .int x249, .int x251]) (k0 := v1) (r := []) (v := (some (.int p253.1))) (w1 := p253.2) (ft272 386 rfl) (by decide +kernel) rfl (Nat.le_of_ble_eq_true rfl) (Nat.le_of_ble_eq_true rfl) (r235 n v1 x247 x249 x251 w _ q254) (by decide +kernel) g265 ?_
                                refine rn_aload_n (ft272 387 rfl) rfl ?_
                                refine rn_aload_nS (ft272 388 rfl) rfl ?_
                                refine rn_iload_n (ft272 389 rfl) rfl ?_
                                refine rn_iconst (v := (1 : Int32)) (ft272 390 rfl) (by decide) ?_
                                refine rn_iadd (ft272 391 rfl) ?_
                                obtain ⟨x255, q256, h⟩ := ob_some h
                                refine rn_ialoadS (ft272 392 rfl) q256 ?_
                                refine rn_aload_nS (ft272 393 rfl) rfl ?_
                                refine rn_iload_n (ft272 394 rfl) rfl ?_
                                refine rn_iconst (v := (2 : Int32)) (ft272 395 rfl) (by decide) ?_
                                refine rn_iadd (ft272 396 rfl) ?_
                                obtain ⟨x257, q258, h⟩ := ob_some h
                                refine rn_ialoadS (ft272 397 rfl) q258 ?_
                                refine rn_aload_nS (ft272 398 rfl) rfl ?_
                                refine rn_iload_n (ft272 399 rfl) rfl ?_
                                refine rn_iconst (v := (3 : Int32)) (ft272 400 rfl) (by decide) ?_
                                refine rn_iadd (ft272 401 rfl) ?_
                                obtain ⟨x259, q260, h⟩ := ob_some h
                                refine rn_ialoadS (ft272 402 rfl) q260 ?_
                                obtain ⟨g264, h⟩ := ifg h
                                obtain ⟨p261, q262, h⟩ := ob_some h
                                refine rn_callV (as := [.int x255, .int x257, .int x259]) (k0 := v2) (r := [.int p253.1]) (v := (some (.int p261.1))) (w1 := p261.2) (ft272 403 rfl) (by decide +kernel) rfl (Nat.le_of_ble_eq_true rfl) (Nat.le_of_ble_eq_true rfl) (r249 n v2 x255 x257 x259 p253.2 _ q262) (by decide +kernel) g264 ?_
                                by_cases c263 : p253.1 = p261.1
                                · replace h := ifp c263 h
                                  refine rn_icmp_eq_t (ft272 404 rfl) c263 ?_
                                  refine rn_iinc (u := 6) (ls' := [some (.float 3), some (.ref v1), some (.ref v2), some (.int (v3 + (6 : Int32)))]) (ft272 839 rfl) rfl (by decide) rfl ?_
                                  refine rn_goto (ft272 840 rfl) ?_
                                  exact rn_forget (ls := [some (.float 3), some (.ref v1), some (.ref v2), some (.int (v3 + (6 : Int32)))]) (And.intro rfl (And.intro rfl (And.intro rfl (And.intro rfl trivial)))) (hrec10 v1 v2 (v3 + (6 : Int32)) p261.2 _ h)
                                · replace h := ifn c263 h
                                  refine rn_icmp_eq_f (ft272 404 rfl) c263 ?_
                                  refine rn_iconst (v := (0 : Int32)) (ft272 405 rfl) (by decide) ?_
                                  cases h
                                  exact rn_iretZ pr272 (by decide) (ft272 406 rfl)
                              · replace h := ifn c462 h
                                by_cases c463 : (x5 &&& (31 : Int32)) = 13
                                · replace h := ifp c463 h
                                  refine rn_sw_i (e := 600) (pc' := 633) (ft272 21 rfl) (by rw [c463]; decide) (by rw [c463]; rfl) (by decide) ?_
                                  refine rn_aload_n (ft272 407 rfl) rfl ?_
                                  refine rn_aload_nS (ft272 408 rfl) rfl ?_
                                  refine rn_iload_n (ft272 409 rfl) rfl ?_
                                  refine rn_iconst (v := (1 : Int32)) (ft272 410 rfl) (by decide) ?_
                                  refine rn_iadd (ft272 411 rfl) ?_
                                  obtain ⟨x232, q233, h⟩ := ob_some h
                                  refine rn_ialoadS (ft272 412 rfl) q233 ?_
                                  refine rn_aload_nS (ft272 413 rfl) rfl ?_
                                  refine rn_iload_n (ft272 414 rfl) rfl ?_
                                  refine rn_iconst (v := (2 : Int32)) (ft272 415 rfl) (by decide) ?_
                                  refine rn_iadd (ft272 416 rfl) ?_
                                  obtain ⟨x234, q235, h⟩ := ob_some h
                                  refine rn_ialoadS (ft272 417 rfl) q235 ?_
                                  obtain ⟨g246, h⟩ := ifg h
                                  obtain ⟨p236, q237, h⟩ := ob_some h
                                  refine rn_callV (as := [.int x232, .int x234]) (k0 := v1) (r := []) (v := (some (.int p236.1))) (w1 := p236.2) (ft272 418 rfl) (by decide +kernel) rfl (Nat.le_of_ble_eq_true rfl) (Nat.le_of_ble_eq_true rfl) (r236 n v1 x232 x234 w _ q237) (by decide +kernel) g246 ?_
                                  refine rn_aload_n (ft272 419 rfl) rfl ?_
                                  refine rn_aload_nS (ft272 420 rfl) rfl ?_
                                  refine rn_iload_n (ft272 421 rfl) rfl ?_
                                  refine rn_iconst (v := (1 : Int32)) (ft272 422 rfl) (by decide) ?_
                                  refine rn_iadd (ft272 423 rfl) ?_
                                  obtain ⟨x238, q239, h⟩ := ob_some h
                                  refine rn_ialoadS (ft272 424 rfl) q239 ?_
                                  refine rn_aload_nS (ft272 425 rfl) rfl ?_
                                  refine rn_iload_n (ft272 426 rfl) rfl ?_
                                  refine rn_iconst (v := (2 : Int32)) (ft272 427 rfl) (by decide) ?_
                                  refine rn_iadd (ft272 428 rfl) ?_
                                  obtain ⟨x240, q241, h⟩ := ob_some h
                                  refine rn_ialoadS (ft272 429 rfl) q241 ?_
                                  obtain ⟨g245, h⟩ := ifg h
                                  obtain ⟨p242, q243, h⟩ := ob_some h
                                  refine rn_callV (as := [.int x238, .int x240]) (k0 := v2) (r := [.int p236.1]) (v := (some (.int p242.1))) (w1 := p242.2) (ft272 430 rfl) (by decide +kernel) rfl (Nat.le_of_ble_eq_true rfl) (Nat.le_of_ble_eq_true rfl) (r250 n v2 x238 x240 p236.2 _ q243) (by decide +kernel) g245 ?_
                                  by_cases c244 : p236.1 = p242.1
                                  · replace h := ifp c244 h
                                    refine rn_icmp_eq_t (ft272 431 rfl) c244 ?_
                                    refine rn_iinc (u := 6) (ls' := [some (.float 3), some (.ref v1), some (.ref v2), some (.int (v3 + (6 : Int32)))]) (ft272 839 rfl) rfl (by decide) rfl ?_
                                    refine rn_goto (ft272 840 rfl) ?_
                                    exact rn_forget (ls := [some (.float 3), some (.ref v1), some (.ref v2), some (.int (v3 + (6 : Int32)))]) (And.intro rfl (And.intro rfl (And.intro rfl (And.intro rfl trivial)))) (hrec10 v1 v2 (v3 + (6 : Int32)) p242.2 _ h)
                                  · replace h := ifn c244 h
                                    refine rn_icmp_eq_f (ft272 431 rfl) c244 ?_
                                    refine rn_iconst (v := (0 : Int32)) (ft272 432 rfl) (by decide) ?_
                                    cases h
                                    exact rn_iretZ pr272 (by decide) (ft272 433 rfl)
                                · replace h := ifn c463 h
                                  by_cases c464 : (x5 &&& (31 : Int32)) = 14
                                  · replace h := ifp c464 h
                                    refine rn_sw_i (e := 633) (pc' := 666) (ft272 21 rfl) (by rw [c464]; decide) (by rw [c464]; rfl) (by decide) ?_
                                    refine rn_aload_n (ft272 434 rfl) rfl ?_
                                    refine rn_aload_nS (ft272 435 rfl) rfl ?_
                                    refine rn_iload_n (ft272 436 rfl) rfl ?_
                                    refine rn_iconst (v := (1 : Int32)) (ft272 437 rfl) (by decide) ?_
                                    refine rn_iadd (ft272 438 rfl) ?_
                                    obtain ⟨x221, q222, h⟩ := ob_some h
                                    refine rn_ialoadS (ft272 439 rfl) q222 ?_
                                    obtain ⟨g231, h⟩ := ifg h
                                    obtain ⟨p223, q224, h⟩ := ob_some h
                                    refine rn_callV (as := [.int x221]) (k0 := v1) (r := []) (v := (some (.int p223.1))) (w1 := p223.2) (ft272 440 rfl) (by decide +kernel) rfl (Nat.le_of_ble_eq_true rfl) (Nat.le_of_ble_eq_true rfl) (r157 v1 x221 w _ q224) (by decide +kernel) g231 ?_
                                    refine rn_aload_n (ft272 441 rfl) rfl ?_
                                    refine rn_aload_nS (ft272 442 rfl) rfl ?_
                                    refine rn_iload_n (ft272 443 rfl) rfl ?_
                                    refine rn_iconst (v := (1 : Int32)) (ft272 444 rfl) (by decide) ?_
                                    refine rn_iadd (ft272 445 rfl) ?_
                                    obtain ⟨x225, q226, h⟩ := ob_some h
                                    refine rn_ialoadS (ft272 446 rfl) q226 ?_
                                    obtain ⟨g230, h⟩ := ifg h
                                    obtain ⟨p227, q228, h⟩ := ob_some h
                                    refine rn_callV (as := [.int x225]) (k0 := v2) (r := [.int p223.1]) (v := (some (.int p227.1))) (w1 := p227.2) (ft272 447 rfl) (by decide +kernel) rfl (Nat.le_of_ble_eq_true rfl) (Nat.le_of_ble_eq_true rfl) (r130 v2 x225 p223.2 _ q228) (by decide +kernel) g230 ?_
                                    by_cases c229 : p223.1 = p227.1
                                    · replace h := ifp c229 h
                                      refine rn_icmp_eq_t (ft272 448 rfl) c229 ?_
                                      refine rn_iinc (u := 6) (ls' := [some (.float 3), some (.ref v1), some (.ref v2), some (.int (v3 + (6 : Int32)))]) (ft272 839 rfl) rfl (by decide) rfl ?_
                                      refine rn_goto (ft272 840 rfl) ?_
                                      exact rn_forget (ls := [some (.float 3), some (.ref v1), some (.ref v2), some (.int (v3 + (6 : Int32)))]) (And.intro rfl (And.intro rfl (And.intro rfl (And.intro rfl trivial)))) (hrec10 v1 v2 (v3 + (6 : Int32)) p227.2 _ h)
                                    · replace h := ifn c229 h
                                      refine rn_icmp_eq_f (ft272 448 rfl) c229 ?_
                                      refine rn_iconst (v := (0 : Int32)) (ft272 449 rfl) (by decide) ?_
                                      cases h
                                      exact rn_iretZ pr272 (by decide) (ft272 450 rfl)
                                  · replace h := ifn c464 h
                                    by_cases c465 : (x5 &&& (31 : Int32)) = 15
                                    · replace h := ifp c465 h
                                      refine rn_sw_i (e := 656) (pc' := 689) (ft272 21 rfl) (by rw [c465]; decide) (by rw [c465]; rfl) (by decide) ?_
                                      refine rn_aload_n (ft272 451 rfl) rfl ?_
                                      obtain ⟨g220, h⟩ := ifg h
                                      obtain ⟨p214, q215, h⟩ := ob_some h
                                      refine rn_callV (as := []) (k0 := v1) (r := []) (v := (some (.int p214.1))) (w1 := p214.2) (ft272 452 rfl) (by decide +kernel) rfl (Nat.le_of_ble_eq_true rfl) (Nat.le_of_ble_eq_true rfl) (r33 v1 w _ q215) (by decide +kernel) g220 ?_
                                      refine rn_aload_n (ft272 453 rfl) rfl ?_
                                      obtain ⟨g219, h⟩ := ifg h
                                      obtain ⟨p216, q217, h⟩ := ob_some h
                                      refine rn_callV (as := []) (k0 := v2) (r := [.int p214.1]) (v := (some (.int p216.1))) (w1 := p216.2) (ft272 454 rfl) (by decide +kernel) rfl (Nat.le_of_ble_eq_true rfl) (Nat.le_of_ble_eq_true rfl) (r60 v2 p214.2 _ q217) (by decide +kernel) g219 ?_
                                      by_cases c218 : p214.1 = p216.1
                                      · replace h := ifp c218 h
                                        refine rn_icmp_eq_t (ft272 455 rfl) c218 ?_
                                        refine rn_iinc (u := 6) (ls' := [some (.float 3), some (.ref v1), some (.ref v2), some (.int (v3 + (6 : Int32)))]) (ft272 839 rfl) rfl (by decide) rfl ?_
                                        refine rn_goto (ft272 840 rfl) ?_
                                        exact rn_forget (ls := [some (.float 3), some (.ref v1), some (.ref v2), some (.int (v3 + (6 : Int32)))]) (And.intro rfl (And.intro rfl (And.intro rfl (And.intro rfl trivial)))) (hrec10 v1 v2 (v3 + (6 : Int32)) p216.2 _ h)
                                      · replace h := ifn c218 h
                                        refine rn_icmp_eq_f (ft272 455 rfl) c218 ?_
                                        refine rn_iconst (v := (0 : Int32)) (ft272 456 rfl) (by decide) ?_
                                        cases h
                                        exact rn_iretZ pr272 (by decide) (ft272 457 rfl)
                                    · replace h := ifn c465 h
                                      by_cases c466 : (x5 &&& (31 : Int32)) = 16
                                      · replace h := ifp c466 h
                                        refine rn_sw_i (e := 669) (pc' := 702) (ft272 21 rfl) (by rw [c466]; decide) (by rw [c466]; rfl) (by decide) ?_
                                        refine rn_aload_n (ft272 458 rfl) rfl ?_
                                        refine rn_aload_nS (ft272 459 rfl) rfl ?_
                                        refine rn_iload_n (ft272 460 rfl) rfl ?_
                                        refine rn_iconst (v := (1 : Int32)) (ft272 461 rfl) (by decide) ?_
                                        refine rn_iadd (ft272 462 rfl) ?_
                                        obtain ⟨x203, q204, h⟩ := ob_some h
                                        refine rn_ialoadS (ft272 463 rfl) q204 ?_
                                        obtain ⟨g213, h⟩ := ifg h
                                        obtain ⟨p205, q206, h⟩ := ob_some h
                                        refine rn_callV (as := [.int x203]) (k0 := v1) (r := []) (v := (some (.int p205.1))) (w1 := p205.2) (ft272 464 rfl) (by decide +kernel) rfl (Nat.le_of_ble_eq_true rfl) (Nat.le_of_ble_eq_true rfl) (r237 n v1 x203 w _ q206) (by decide +kernel) g213 ?_
                                        refine rn_aload_n (ft272 465 rfl) rfl ?_
                                        refine rn_aload_nS (ft272 466 rfl) rfl ?_
                                        refine rn_iload_n (ft272 467 rfl) rfl ?_
                                        refine rn_iconst (v := (1 : Int32)) (ft272 468 rfl) (by decide) ?_
                                        refine rn_iadd (ft272 469 rfl) ?_
                                        obtain ⟨x207, q208, h⟩ := ob_some h
                                        refine rn_ialoadS (ft272 470 rfl) q208 ?_
                                        obtain ⟨g212, h⟩ := ifg h
                                        obtain ⟨p209, q210, h⟩ := ob_some h
                                        refine rn_callV (as := [.int x207]) (k0 := v2) (r := [.int p205.1]) (v := (some (.int p209.1))) (w1 := p209.2) (ft272 471 rfl) (by decide +kernel) rfl (Nat.le_of_ble_eq_true rfl) (Nat.le_of_ble_eq_true rfl) (r251 n v2 x207 p205.2 _ q210) (by decide +kernel) g212 ?_
                                        by_cases c211 : p205.1 = p209.1
                                        · replace h := ifp c211 h
                                          refine rn_icmp_eq_t (ft272 472 rfl) c211 ?_
                                          refine rn_iinc (u := 6) (ls' := [some (.float 3), some (.ref v1), some (.ref v2), some (.int (v3 + (6 : Int32)))]) (ft272 839 rfl) rfl (by decide) rfl ?_
                                          refine rn_goto (ft272 840 rfl) ?_
                                          exact rn_forget (ls := [some (.float 3), some (.ref v1), some (.ref v2), some (.int (v3 + (6 : Int32)))]) (And.intro rfl (And.intro rfl (And.intro rfl (And.intro rfl trivial)))) (hrec10 v1 v2 (v3 + (6 : Int32)) p209.2 _ h)
                                        · replace h := ifn c211 h
                                          refine rn_icmp_eq_f (ft272 472 rfl) c211 ?_
                                          refine rn_iconst (v := (0 : Int32)) (ft272 473 rfl) (by decide) ?_
                                          cases h
                                          exact rn_iretZ pr272 (by decide) (ft272 474 rfl)
                                      · replace h := ifn c466 h
                                        by_cases c467 : (x5 &&& (31 : Int32)) = 17
                                        · replace h := ifp c467 h
                                          refine rn_sw_i (e := 692) (pc' := 725) (ft272 21 rfl) (by rw [c467]; decide) (by rw [c467]; rfl) (by decide) ?_
                                          refine rn_aload_n (ft272 475 rfl) rfl ?_
                                          refine rn_aload_nS (ft272 476 rfl) rfl ?_
                                          refine rn_iload_n (ft272 477 rfl) rfl ?_
                                          refine rn_iconst (v := (1 : Int32)) (ft272 478 rfl) (by decide) ?_
                                          refine rn_iadd (ft272 479 rfl) ?_
                                          obtain ⟨x180, q181, h⟩ := ob_some h
                                          refine rn_ialoadS (ft272 480 rfl) q181 ?_
                                          refine rn_aload_nS (ft272 481 rfl) rfl ?_
                                          refine rn_iload_n (ft272 482 rfl) rfl ?_
                                          refine rn_iconst (v := (2 : Int32)) (ft272 483 rfl) (by decide) ?_
                                          refine rn_iadd (ft272 484 rfl) ?_
                                          obtain ⟨x182, q183, h⟩ := ob_some h
                                          refine rn_ialoadS (ft272 485 rfl) q183 ?_
                                          refine rn_aload_nS (ft272 486 rfl) rfl ?_
                                          refine rn_iload_n (ft272 487 rfl) rfl ?_
                                          refine rn_iconst (v := (3 : Int32)) (ft272 488 rfl) (by decide) ?_
                                          refine rn_iadd (ft272 489 rfl) ?_
                                          obtain ⟨x184, q185, h⟩ := ob_some h
                                          refine rn_ialoadS (ft272 490 rfl) q185 ?_
                                          refine rn_aload_nS (ft272 491 rfl) rfl ?_
                                          refine rn_iload_n (ft272 492 rfl) rfl ?_
                                          refine rn_iconst (v := (4 : Int32)) (ft272 493 rfl) (by decide) ?_
                                          refine rn_iadd (ft272 494 rfl) ?_
                                          obtain ⟨x186, q187, h⟩ := ob_some h
                                          refine rn_ialoadS (ft272 495 rfl) q187 ?_
                                          obtain ⟨g202, h⟩ := ifg h
                                          obtain ⟨p188, q189, h⟩ := ob_some h
                                          refine rn_callV (as := [.int x180, .int x182, .int x184, .int x186]) (k0 := v1) (r := []) (v := (some (.int p188.1))) (w1 := p188.2) (ft272 496 rfl) (by decide +kernel) rfl (Nat.le_of_ble_eq_true rfl) (Nat.le_of_ble_eq_true rfl) (r222 n v1 x180 x182 x184 x186 w _ q189) (by decide +kernel) g202 ?_
                                          refine rn_aload_n (ft272 497 rfl) rfl ?_
                                          refine rn_aload_nS (ft272 498 rfl) rfl ?_
                                          refine rn_iload_n (ft272 499 rfl) rfl ?_
                                          refine rn_iconst (v := (1 : Int32)) (ft272 500 rfl) (by decide) ?_
                                          refine rn_iadd (ft272 501 rfl) ?_
                                          obtain ⟨x190, q191, h⟩ := ob_some h
                                          refine rn_ialoadS (ft272 502 rfl) q191 ?_
                                          refine rn_aload_nS (ft272 503 rfl) rfl ?_
                                          refine rn_iload_n (ft272 504 rfl) rfl ?_
                                          refine rn_iconst (v := (2 : Int32)) (ft272 505 rfl) (by decide) ?_
                                          refine rn_iadd (ft272 506 rfl) ?_
                                          obtain ⟨x192, q193, h⟩ := ob_some h
                                          refine rn_ialoadS (ft272 507 rfl) q193 ?_
                                          refine rn_aload_nS (ft272 508 rfl) rfl ?_
                                          refine rn_iload_n (ft272 509 rfl) rfl ?_
                                          refine rn_iconst (v := (3 : Int32)) (ft272 510 rfl) (by decide) ?_
                                          refine rn_iadd (ft272 511 rfl) ?_
                                          obtain ⟨x194, q195, h⟩ := ob_some h
                                          refine rn_ialoadS (ft272 512 rfl) q195 ?_
                                          refine rn_aload_nS (ft272 513 rfl) rfl ?_
                                          refine rn_iload_n (ft272 514 rfl) rfl ?_
                                          refine rn_iconst (v := (4 : Int32)) (ft272 515 rfl) (by decide) ?_
                                          refine rn_iadd (ft272 516 rfl) ?_
                                          obtain ⟨x196, q197, h⟩ := ob_some h
                                          refine rn_ialoadS (ft272 517 rfl) q197 ?_
                                          obtain ⟨g201, h⟩ := ifg h
                                          obtain ⟨p198, q199, h⟩ := ob_some h
                                          refine rn_callV (as := [.int x190, .int x192, .int x194, .int x196]) (k0 := v2) (r := [.int p188.1]) (v := (some (.int p198.1))) (w1 := p198.2) (ft272 518 rfl) (by decide +kernel) rfl (Nat.le_of_ble_eq_true rfl) (Nat.le_of_ble_eq_true rfl) (r229 n v2 x190 x192 x194 x196 p188.2 _ q199) (by decide +kernel) g201 ?_
                                          by_cases c200 : p188.1 = p198.1
                                          · replace h := ifp c200 h
                                            refine rn_icmp_eq_t (ft272 519 rfl) c200 ?_
                                            refine rn_iinc (u := 6) (ls' := [some (.float 3), some (.ref v1), some (.ref v2), some (.int (v3 + (6 : Int32)))]) (ft272 839 rfl) rfl (by decide) rfl ?_
                                            refine rn_goto (ft272 840 rfl) ?_
                                            exact rn_forget (ls := [some (.float 3), some (.ref v1), some (.ref v2), some (.int (v3 + (6 : Int32)))]) (And.intro rfl (And.intro rfl (And.intro rfl (And.intro rfl trivial)))) (hrec10 v1 v2 (v3 + (6 : Int32)) p198.2 _ h)
                                          · replace h := ifn c200 h
                                            refine rn_icmp_eq_f (ft272 519 rfl) c200 ?_
                                            refine rn_iconst (v := (0 : Int32)) (ft272 520 rfl) (by decide) ?_
                                            cases h
                                            exact rn_iretZ pr272 (by decide) (ft272 521 rfl)
                                        · replace h := ifn c467 h
                                          by_cases c468 : (x5 &&& (31 : Int32)) = 18
                                          · replace h := ifp c468 h
                                            refine rn_sw_i (e := 745) (pc' := 778) (ft272 21 rfl) (by rw [c468]; decide) (by rw [c468]; rfl) (by decide) ?_
                                            refine rn_aload_n (ft272 522 rfl) rfl ?_
                                            refine rn_aload_nS (ft272 523 rfl) rfl ?_
                                            refine rn_iload_n (ft272 524 rfl) rfl ?_
                                            refine rn_iconst (v := (1 : Int32)) (ft272 525 rfl) (by decide) ?_
                                            refine rn_iadd (ft272 526 rfl) ?_
                                            obtain ⟨x161, q162, h⟩ := ob_some h
                                            refine rn_ialoadS (ft272 527 rfl) q162 ?_
                                            refine rn_aload_nS (ft272 528 rfl) rfl ?_
                                            refine rn_iload_n (ft272 529 rfl) rfl ?_
                                            refine rn_iconst (v := (2 : Int32)) (ft272 530 rfl) (by decide) ?_
                                            refine rn_iadd (ft272 531 rfl) ?_
                                            obtain ⟨x163, q164, h⟩ := ob_some h
                                            refine rn_ialoadS (ft272 532 rfl) q164 ?_
                                            refine rn_aload_nS (ft272 533 rfl) rfl ?_
                                            refine rn_iload_n (ft272 534 rfl) rfl ?_
                                            refine rn_iconst (v := (3 : Int32)) (ft272 535 rfl) (by decide) ?_
                                            refine rn_iadd (ft272 536 rfl) ?_
                                            obtain ⟨x165, q166, h⟩ := ob_some h
                                            refine rn_ialoadS (ft272 537 rfl) q166 ?_
                                            obtain ⟨g179, h⟩ := ifg h
                                            obtain ⟨p167, q168, h⟩ := ob_some h
                                            refine rn_callV (as := [.int x161, .int x163, .int x165]) (k0 := v1) (r := []) (v := (some (.int p167.1))) (w1 := p167.2) (ft272 538 rfl) (by decide +kernel) rfl (Nat.le_of_ble_eq_true rfl) (Nat.le_of_ble_eq_true rfl) (r223 n v1 x161 x163 x165 w _ q168) (by decide +kernel) g179 ?_
                                            refine rn_aload_n (ft272 539 rfl) rfl ?_
                                            refine rn_aload_nS (ft272 540 rfl) rfl ?_
                                            refine rn_iload_n (ft272 541 rfl) rfl ?_
                                            refine rn_iconst (v := (1 : Int32)) (ft272 542 rfl) (by decide) ?_
                                            refine rn_iadd (ft272 543 rfl) ?_
                                            obtain ⟨x169, q170, h⟩ := ob_some h
                                            refine rn_ialoadS (ft272 544 rfl) q170 ?_
                                            refine rn_aload_nS (ft272 545 rfl) rfl ?_
                                            refine rn_iload_n (ft272 546 rfl) rfl ?_
                                            refine rn_iconst (v := (2 : Int32)) (ft272 547 rfl) (by decide) ?_
                                            refine rn_iadd (ft272 548 rfl) ?_
                                            obtain ⟨x171, q172, h⟩ := ob_some h
                                            refine rn_ialoadS (ft272 549 rfl) q172 ?_
                                            refine rn_aload_nS (ft272 550 rfl) rfl ?_
                                            refine rn_iload_n (ft272 551 rfl) rfl ?_
                                            refine rn_iconst (v := (3 : Int32)) (ft272 552 rfl) (by decide) ?_
                                            refine rn_iadd (ft272 553 rfl) ?_
                                            obtain ⟨x173, q174, h⟩ := ob_some h
                                            refine rn_ialoadS (ft272 554 rfl) q174 ?_
                                            obtain ⟨g178, h⟩ := ifg h
                                            obtain ⟨p175, q176, h⟩ := ob_some h
                                            refine rn_callV (as := [.int x169, .int x171, .int x173]) (k0 := v2) (r := [.int p167.1]) (v := (some (.int p175.1))) (w1 := p175.2) (ft272 555 rfl) (by decide +kernel) rfl (Nat.le_of_ble_eq_true rfl) (Nat.le_of_ble_eq_true rfl) (r230 n v2 x169 x171 x173 p167.2 _ q176) (by decide +kernel) g178 ?_
                                            by_cases c177 : p167.1 = p175.1
                                            · replace h := ifp c177 h
                                              refine rn_icmp_eq_t (ft272 556 rfl) c177 ?_
                                              refine rn_iinc (u := 6) (ls' := [some (.float 3), some (.ref v1), some (.ref v2), some (.int (v3 + (6 : Int32)))]) (ft272 839 rfl) rfl (by decide) rfl ?_
                                              refine rn_goto (ft272 840 rfl) ?_
                                              exact rn_forget (ls := [some (.float 3), some (.ref v1), some (.ref v2), some (.int (v3 + (6 : Int32)))]) (And.intro rfl (And.intro rfl (And.intro rfl (And.intro rfl trivial)))) (hrec10 v1 v2 (v3 + (6 : Int32)) p175.2 _ h)
                                            · replace h := ifn c177 h
                                              refine rn_icmp_eq_f (ft272 556 rfl) c177 ?_
                                              refine rn_iconst (v := (0 : Int32)) (ft272 557 rfl) (by decide) ?_
                                              cases h
                                              exact rn_iretZ pr272 (by decide) (ft272 558 rfl)
                                          · replace h := ifn c468 h
                                            by_cases c469 : (x5 &&& (31 : Int32)) = 19
                                            · replace h := ifp c469 h
                                              refine rn_sw_i (e := 788) (pc' := 821) (ft272 21 rfl) (by rw [c469]; decide) (by rw [c469]; rfl) (by decide) ?_
                                              refine rn_aload_n (ft272 559 rfl) rfl ?_
                                              refine rn_aload_nS (ft272 560 rfl) rfl ?_
                                              refine rn_iload_n (ft272 561 rfl) rfl ?_
                                              refine rn_iconst (v := (1 : Int32)) (ft272 562 rfl) (by decide) ?_
                                              refine rn_iadd (ft272 563 rfl) ?_
                                              obtain ⟨x142, q143, h⟩ := ob_some h
                                              refine rn_ialoadS (ft272 564 rfl) q143 ?_
                                              refine rn_aload_nS (ft272 565 rfl) rfl ?_
                                              refine rn_iload_n (ft272 566 rfl) rfl ?_
                                              refine rn_iconst (v := (2 : Int32)) (ft272 567 rfl) (by decide) ?_
                                              refine rn_iadd (ft272 568 rfl) ?_
                                              obtain ⟨x144, q145, h⟩ := ob_some h
                                              refine rn_ialoadS (ft272 569 rfl) q145 ?_
                                              refine rn_aload_nS (ft272 570 rfl) rfl ?_
                                              refine rn_iload_n (ft272 571 rfl) rfl ?_
                                              refine rn_iconst (v := (3 : Int32)) (ft272 572 rfl) (by decide) ?_
                                              refine rn_iadd (ft272 573 rfl) ?_
                                              obtain ⟨x146, q147, h⟩ := ob_some h
                                              refine rn_ialoadS (ft272 574 rfl) q147 ?_
                                              obtain ⟨g160, h⟩ := ifg h
                                              obtain ⟨p148, q149, h⟩ := ob_some h
                                              refine rn_callV (as := [.int x142, .int x144, .int x146]) (k0 := v1) (r := []) (v := (some (.int p148.1))) (w1 := p148.2) (ft272 575 rfl) (by decide +kernel) rfl (Nat.le_of_ble_eq_true rfl) (Nat.le_of_ble_eq_true rfl) (r238 n v1 x142 x144 x146 w _ q149) (by decide +kernel) g160 ?_
                                              refine rn_aload_n (ft272 576 rfl) rfl ?_
                                              refine rn_aload_nS (ft272 577 rfl) rfl ?_
                                              refine rn_iload_n (ft272 578 rfl) rfl ?_
                                              refine rn_iconst (v := (1 : Int32)) (ft272 579 rfl) (by decide) ?_
                                              refine rn_iadd (ft272 580 rfl) ?_
                                              obtain ⟨x150, q151, h⟩ := ob_some h
                                              refine rn_ialoadS (ft272 581 rfl) q151 ?_
                                              refine rn_aload_nS (ft272 582 rfl) rfl ?_
                                              refine rn_iload_n (ft272 583 rfl) rfl ?_
                                              refine rn_iconst (v := (2 : Int32)) (ft272 584 rfl) (by decide) ?_
                                              refine rn_iadd (ft272 585 rfl) ?_
                                              obtain ⟨x152, q153, h⟩ := ob_some h
                                              refine rn_ialoadS (ft272 586 rfl) q153 ?_
                                              refine rn_aload_nS (ft272 587 rfl) rfl ?_
                                              refine rn_iload_n (ft272 588 rfl) rfl ?_
                                              refine rn_iconst (v := (3 : Int32)) (ft272 589 rfl) (by decide) ?_
                                              refine rn_iadd (ft272 590 rfl) ?_
                                              obtain ⟨x154, q155, h⟩ := ob_some h
                                              refine rn_ialoadS (ft272 591 rfl) q155 ?_
                                              obtain ⟨g159, h⟩ := ifg h
                                              obtain ⟨p156, q157, h⟩ := ob_some h
                                              refine rn_callV (as := [.int x150, .int x152, .int x154]) (k0 := v2) (r := [.int p148.1]) (v := (some (.int p156.1))) (w1 := p156.2) (ft272 592 rfl) (by decide +kernel) rfl (Nat.le_of_ble_eq_true rfl) (Nat.le_of_ble_eq_true rfl) (r252 n v2 x150 x152 x154 p148.2 _ q157) (by decide +kernel) g159 ?_
                                              by_cases c158 : p148.1 = p156.1
                                              · replace h := ifp c158 h
                                                refine rn_icmp_eq_t (ft272 593 rfl) c158 ?_
                                                refine rn_iinc (u := 6) (ls' := [some (.float 3), some (.ref v1), some (.ref v2), some (.int (v3 + (6 : Int32)))]) (ft272 839 rfl) rfl (by decide) rfl ?_
                                                refine rn_goto (ft272 840 rfl) ?_
                                                exact rn_forget (ls := [some (.float 3), some (.ref v1), some (.ref v2), some (.int (v3 + (6 : Int32)))]) (And.intro rfl (And.intro rfl (And.intro rfl (And.intro rfl trivial)))) (hrec10 v1 v2 (v3 + (6 : Int32)) p156.2 _ h)
                                              · replace h := ifn c158 h
                                                refine rn_icmp_eq_f (ft272 593 rfl) c158 ?_
                                                refine rn_iconst (v := (0 : Int32)) (ft272 594 rfl) (by decide) ?_
                                                cases h
                                                exact rn_iretZ pr272 (by decide) (ft272 595 rfl)
                                            · replace h := ifn c469 h
                                              by_cases c470 : (x5 &&& (31 : Int32)) = 20
                                              · replace h := ifp c470 h
                                                refine rn_sw_i (e := 831) (pc' := 864) (ft272 21 rfl) (by rw [c470]; decide) (by rw [c470]; rfl) (by decide) ?_
                                                refine rn_aload_n (ft272 596 rfl) rfl ?_
                                                refine rn_aload_nS (ft272 597 rfl) rfl ?_
                                                refine rn_iload_n (ft272 598 rfl) rfl ?_
                                                refine rn_iconst (v := (1 : Int32)) (ft272 599 rfl) (by decide) ?_
                                                refine rn_iadd (ft272 600 rfl) ?_
                                                obtain ⟨x123, q124, h⟩ := ob_some h
                                                refine rn_ialoadS (ft272 601 rfl) q124 ?_
                                                refine rn_aload_nS (ft272 602 rfl) rfl ?_
                                                refine rn_iload_n (ft272 603 rfl) rfl ?_
                                                refine rn_iconst (v := (2 : Int32)) (ft272 604 rfl) (by decide) ?_
                                                refine rn_iadd (ft272 605 rfl) ?_
                                                obtain ⟨x125, q126, h⟩ := ob_some h
                                                refine rn_ialoadS (ft272 606 rfl) q126 ?_
                                                refine rn_aload_nS (ft272 607 rfl) rfl ?_
                                                refine rn_iload_n (ft272 608 rfl) rfl ?_
                                                refine rn_iconst (v := (3 : Int32)) (ft272 609 rfl) (by decide) ?_
                                                refine rn_iadd (ft272 610 rfl) ?_
                                                obtain ⟨x127, q128, h⟩ := ob_some h
                                                refine rn_ialoadS (ft272 611 rfl) q128 ?_
                                                obtain ⟨g141, h⟩ := ifg h
                                                obtain ⟨p129, q130, h⟩ := ob_some h
                                                refine rn_callV (as := [.int x123, .int x125, .int x127]) (k0 := v1) (r := []) (v := (some (.int p129.1))) (w1 := p129.2) (ft272 612 rfl) (by decide +kernel) rfl (Nat.le_of_ble_eq_true rfl) (Nat.le_of_ble_eq_true rfl) (r239 n v1 x123 x125 x127 w _ q130) (by decide +kernel) g141 ?_
                                                refine rn_aload_n (ft272 613 rfl) rfl ?_
                                                refine rn_aload_nS (ft272 614 rfl) rfl ?_
                                                refine rn_iload_n (ft272 615 rfl) rfl ?_
                                                refine rn_iconst (v := (1 : Int32)) (ft272 616 rfl) (by decide) ?_
                                                refine rn_iadd (ft272 617 rfl) ?_
                                                obtain ⟨x131, q132, h⟩ := ob_some h
                                                refine rn_ialoadS (ft272 618 rfl) q132 ?_
                                                refine rn_aload_nS (ft272 619 rfl) rfl ?_
                                                refine rn_iload_n (ft272 620 rfl) rfl ?_
                                                refine rn_iconst (v := (2 : Int32)) (ft272 621 rfl) (by decide) ?_
                                                refine rn_iadd (ft272 622 rfl) ?_
                                                obtain ⟨x133, q134, h⟩ := ob_some h
                                                refine rn_ialoadS (ft272 623 rfl) q134 ?_
                                                refine rn_aload_nS (ft272 624 rfl) rfl ?_
                                                refine rn_iload_n (ft272 625 rfl) rfl ?_
                                                refine rn_iconst (v := (3 : Int32)) (ft272 626 rfl) (by decide) ?_
                                                refine rn_iadd (ft272 627 rfl) ?_
                                                obtain ⟨x135, q136, h⟩ := ob_some h
                                                refine rn_ialoadS (ft272 628 rfl) q136 ?_
                                                obtain ⟨g140, h⟩ := ifg h
                                                obtain ⟨p137, q138, h⟩ := ob_some h
                                                refine rn_callV (as := [.int x131, .int x133, .int x135]) (k0 := v2) (r := [.int p129.1]) (v := (some (.int p137.1))) (w1 := p137.2) (ft272 629 rfl) (by decide +kernel) rfl (Nat.le_of_ble_eq_true rfl) (Nat.le_of_ble_eq_true rfl) (r255 n v2 x131 x133 x135 p129.2 _ q138) (by decide +kernel) g140 ?_
                                                by_cases c139 : p129.1 = p137.1
                                                · replace h := ifp c139 h
                                                  refine rn_icmp_eq_t (ft272 630 rfl) c139 ?_
                                                  refine rn_iinc (u := 6) (ls' := [some (.float 3), some (.ref v1), some (.ref v2), some (.int (v3 + (6 : Int32)))]) (ft272 839 rfl) rfl (by decide) rfl ?_
                                                  refine rn_goto (ft272 840 rfl) ?_
                                                  exact rn_forget (ls := [some (.float 3), some (.ref v1), some (.ref v2), some (.int (v3 + (6 : Int32)))]) (And.intro rfl (And.intro rfl (And.intro rfl (And.intro rfl trivial)))) (hrec10 v1 v2 (v3 + (6 : Int32)) p137.2 _ h)
                                                · replace h := ifn c139 h
                                                  refine rn_icmp_eq_f (ft272 630 rfl) c139 ?_
                                                  refine rn_iconst (v := (0 : Int32)) (ft272 631 rfl) (by decide) ?_
                                                  cases h
                                                  exact rn_iretZ pr272 (by decide) (ft272 632 rfl)
                                              · replace h := ifn c470 h
                                                by_cases c471 : (x5 &&& (31 : Int32)) = 21
                                                · replace h := ifp c471 h
                                                  refine rn_sw_i (e := 874) (pc' := 907) (ft272 21 rfl) (by rw [c471]; decide) (by rw [c471]; rfl) (by decide) ?_
                                                  refine rn_aload_n (ft272 633 rfl) rfl ?_
                                                  refine rn_aload_nS (ft272 634 rfl) rfl ?_
                                                  refine rn_iload_n (ft272 635 rfl) rfl ?_
                                                  refine rn_iconst (v := (1 : Int32)) (ft272 636 rfl) (by decide) ?_
                                                  refine rn_iadd (ft272 637 rfl) ?_
                                                  obtain ⟨x108, q109, h⟩ := ob_some h
                                                  refine rn_ialoadS (ft272 638 rfl) q109 ?_
                                                  refine rn_aload_nS (ft272 639 rfl) rfl ?_
                                                  refine rn_iload_n (ft272 640 rfl) rfl ?_
                                                  refine rn_iconst (v := (2 : Int32)) (ft272 641 rfl) (by decide) ?_
                                                  refine rn_iadd (ft272 642 rfl) ?_
                                                  obtain ⟨x110, q111, h⟩ := ob_some h
                                                  refine rn_ialoadS (ft272 643 rfl) q111 ?_
                                                  obtain ⟨g122, h⟩ := ifg h
                                                  obtain ⟨p112, q113, h⟩ := ob_some h
                                                  refine rn_callV (as := [.int x108, .int x110]) (k0 := v1) (r := []) (v := (some (.int p112.1))) (w1 := p112.2) (ft272 644 rfl) (by decide +kernel) rfl (Nat.le_of_ble_eq_true rfl) (Nat.le_of_ble_eq_true rfl) (r240 n v1 x108 x110 w _ q113) (by decide +kernel) g122 ?_
                                                  refine rn_aload_n (ft272 645 rfl) rfl ?_
                                                  refine rn_aload_nS (ft272 646 rfl) rfl ?_
                                                  refine rn_iload_n (ft272 647 rfl) rfl ?_
                                                  refine rn_iconst (v := (1 : Int32)) (ft272 648 rfl) (by decide) ?_
                                                  refine rn_iadd (ft272 649 rfl) ?_
                                                  obtain ⟨x114, q115, h⟩ := ob_some h
                                                  refine rn_ialoadS (ft272 650 rfl) q115 ?_
                                                  refine rn_aload_nS (ft272 651 rfl) rfl ?_
                                                  refine rn_iload_n (ft272 652 rfl) rfl ?_
                                                  refine rn_iconst (v := (2 : Int32)) (ft272 653 rfl) (by decide) ?_
                                                  refine rn_iadd (ft272 654 rfl) ?_
                                                  obtain ⟨x116, q117, h⟩ := ob_some h
                                                  refine rn_ialoadS (ft272 655 rfl) q117 ?_
                                                  obtain ⟨g121, h⟩ := ifg h
                                                  obtain ⟨p118, q119, h⟩ := ob_some h
                                                  refine rn_callV (as := [.int x114, .int x116]) (k0 := v2) (r := [.int p112.1]) (v := (some (.int p118.1))) (w1 := p118.2) (ft272 656 rfl) (by decide +kernel) rfl (Nat.le_of_ble_eq_true rfl) (Nat.le_of_ble_eq_true rfl) (r256 n v2 x114 x116 p112.2 _ q119) (by decide +kernel) g121 ?_
                                                  by_cases c120 : p112.1 = p118.1
                                                  · replace h := ifp c120 h
                                                    refine rn_icmp_eq_t (ft272 657 rfl) c120 ?_
                                                    refine rn_iinc (u := 6) (ls' := [some (.float 3), some (.ref v1), some (.ref v2), some (.int (v3 + (6 : Int32)))]) (ft272 839 rfl) rfl (by decide) rfl ?_
                                                    refine rn_goto (ft272 840 rfl) ?_
                                                    exact rn_forget (ls := [some (.float 3), some (.ref v1), some (.ref v2), some (.int (v3 + (6 : Int32)))]) (And.intro rfl (And.intro rfl (And.intro rfl (And.intro rfl trivial)))) (hrec10 v1 v2 (v3 + (6 : Int32)) p118.2 _ h)
                                                  · replace h := ifn c120 h
                                                    refine rn_icmp_eq_f (ft272 657 rfl) c120 ?_
                                                    refine rn_iconst (v := (0 : Int32)) (ft272 658 rfl) (by decide) ?_
                                                    cases h
                                                    exact rn_iretZ pr272 (by decide) (ft272 659 rfl)
                                                · replace h := ifn c471 h
                                                  by_cases c472 : (x5 &&& (31 : Int32)) = 22
                                                  · replace h := ifp c472 h
                                                    refine rn_sw_i (e := 907) (pc' := 940) (ft272 21 rfl) (by rw [c472]; decide) (by rw [c472]; rfl) (by decide) ?_
                                                    refine rn_aload_n (ft272 660 rfl) rfl ?_
                                                    refine rn_aload_nS (ft272 661 rfl) rfl ?_
                                                    refine rn_iload_n (ft272 662 rfl) rfl ?_
                                                    refine rn_iconst (v := (1 : Int32)) (ft272 663 rfl) (by decide) ?_
                                                    refine rn_iadd (ft272 664 rfl) ?_
                                                    obtain ⟨x89, q90, h⟩ := ob_some h
                                                    refine rn_ialoadS (ft272 665 rfl) q90 ?_
                                                    refine rn_aload_nS (ft272 666 rfl) rfl ?_
                                                    refine rn_iload_n (ft272 667 rfl) rfl ?_
                                                    refine rn_iconst (v := (2 : Int32)) (ft272 668 rfl) (by decide) ?_
                                                    refine rn_iadd (ft272 669 rfl) ?_
                                                    obtain ⟨x91, q92, h⟩ := ob_some h
                                                    refine rn_ialoadS (ft272 670 rfl) q92 ?_
                                                    refine rn_aload_nS (ft272 671 rfl) rfl ?_
                                                    refine rn_iload_n (ft272 672 rfl) rfl ?_
                                                    refine rn_iconst (v := (3 : Int32)) (ft272 673 rfl) (by decide) ?_
                                                    refine rn_iadd (ft272 674 rfl) ?_
                                                    obtain ⟨x93, q94, h⟩ := ob_some h
                                                    refine rn_ialoadS (ft272 675 rfl) q94 ?_
                                                    obtain ⟨g107, h⟩ := ifg h
                                                    obtain ⟨p95, q96, h⟩ := ob_some h
                                                    refine rn_callV (as := [.int x89, .int x91, .int x93]) (k0 := v1) (r := []) (v := (some (.int p95.1))) (w1 := p95.2) (ft272 676 rfl) (by decide +kernel) rfl (Nat.le_of_ble_eq_true rfl) (Nat.le_of_ble_eq_true rfl) (r225 n v1 x89 x91 x93 w _ q96) (by decide +kernel) g107 ?_
                                                    refine rn_aload_n (ft272 677 rfl) rfl ?_
                                                    refine rn_aload_nS (ft272 678 rfl) rfl ?_
                                                    refine rn_iload_n (ft272 679 rfl) rfl ?_
                                                    refine rn_iconst (v := (1 : Int32)) (ft272 680 rfl) (by decide) ?_
                                                    refine rn_iadd (ft272 681 rfl) ?_
                                                    obtain ⟨x97, q98, h⟩ := ob_some h
                                                    refine rn_ialoadS (ft272 682 rfl) q98 ?_
                                                    refine rn_aload_nS (ft272 683 rfl) rfl ?_
                                                    refine rn_iload_n (ft272 684 rfl) rfl ?_
                                                    refine rn_iconst (v := (2 : Int32)) (ft272 685 rfl) (by decide) ?_
                                                    refine rn_iadd (ft272 686 rfl) ?_
                                                    obtain ⟨x99, q100, h⟩ := ob_some h
                                                    refine rn_ialoadS (ft272 687 rfl) q100 ?_
                                                    refine rn_aload_nS (ft272 688 rfl) rfl ?_
                                                    refine rn_iload_n (ft272 689 rfl) rfl ?_
                                                    refine rn_iconst (v := (3 : Int32)) (ft272 690 rfl) (by decide) ?_
                                                    refine rn_iadd (ft272 691 rfl) ?_
                                                    obtain ⟨x101, q102, h⟩ := ob_some h
                                                    refine rn_ialoadS (ft272 692 rfl) q102 ?_
                                                    obtain ⟨g106, h⟩ := ifg h
                                                    obtain ⟨p103, q104, h⟩ := ob_some h
                                                    refine rn_callV (as := [.int x97, .int x99, .int x101]) (k0 := v2) (r := [.int p95.1]) (v := (some (.int p103.1))) (w1 := p103.2) (ft272 693 rfl) (by decide +kernel) rfl (Nat.le_of_ble_eq_true rfl) (Nat.le_of_ble_eq_true rfl) (r246 n v2 x97 x99 x101 p95.2 _ q104) (by decide +kernel) g106 ?_
                                                    by_cases c105 : p95.1 = p103.1
                                                    · replace h := ifp c105 h
                                                      refine rn_icmp_eq_t (ft272 694 rfl) c105 ?_
                                                      refine rn_iinc (u := 6) (ls' := [some (.float 3), some (.ref v1), some (.ref v2), some (.int (v3 + (6 : Int32)))]) (ft272 839 rfl) rfl (by decide) rfl ?_
                                                      refine rn_goto (ft272 840 rfl) ?_
                                                      exact rn_forget (ls := [some (.float 3), some (.ref v1), some (.ref v2), some (.int (v3 + (6 : Int32)))]) (And.intro rfl (And.intro rfl (And.intro rfl (And.intro rfl trivial)))) (hrec10 v1 v2 (v3 + (6 : Int32)) p103.2 _ h)
                                                    · replace h := ifn c105 h
                                                      refine rn_icmp_eq_f (ft272 694 rfl) c105 ?_
                                                      refine rn_iconst (v := (0 : Int32)) (ft272 695 rfl) (by decide) ?_
                                                      cases h
                                                      exact rn_iretZ pr272 (by decide) (ft272 696 rfl)
                                                  · replace h := ifn c472 h
                                                    by_cases c473 : (x5 &&& (31 : Int32)) = 23
                                                    · replace h := ifp c473 h
                                                      refine rn_sw_i (e := 950) (pc' := 983) (ft272 21 rfl) (by rw [c473]; decide) (by rw [c473]; rfl) (by decide) ?_
                                                      refine rn_aload_n (ft272 697 rfl) rfl ?_
                                                      refine rn_aload_nS (ft272 698 rfl) rfl ?_
                                                      refine rn_iload_n (ft272 699 rfl) rfl ?_
                                                      refine rn_iconst (v := (1 : Int32)) (ft272 700 rfl) (by decide) ?_
                                                      refine rn_iadd (ft272 701 rfl) ?_
                                                      obtain ⟨x70, q71, h⟩ := ob_some h
                                                      refine rn_ialoadS (ft272 702 rfl) q71 ?_
                                                      refine rn_aload_nS (ft272 703 rfl) rfl ?_
                                                      refine rn_iload_n (ft272 704 rfl) rfl ?_
                                                      refine rn_iconst (v := (2 : Int32)) (ft272 705 rfl) (by decide) ?_
                                                      refine rn_iadd (ft272 706 rfl) ?_
                                                      obtain ⟨x72, q73, h⟩ := ob_some h
                                                      refine rn_ialoadS (ft272 707 rfl) q73 ?_
                                                      refine rn_aload_nS (ft272 708 rfl) rfl ?_
                                                      refine rn_iload_n (ft272 709 rfl) rfl ?_
                                                      refine rn_iconst (v := (3 : Int32)) (ft272 710 rfl) (by decide) ?_
                                                      refine rn_iadd (ft272 711 rfl) ?_
                                                      obtain ⟨x74, q75, h⟩ := ob_some h
                                                      refine rn_ialoadS (ft272 712 rfl) q75 ?_
                                                      obtain ⟨g88, h⟩ := ifg h
                                                      obtain ⟨p76, q77, h⟩ := ob_some h
                                                      refine rn_callV (as := [.int x70, .int x72, .int x74]) (k0 := v1) (r := []) (v := (some (.int p76.1))) (w1 := p76.2) (ft272 713 rfl) (by decide +kernel) rfl (Nat.le_of_ble_eq_true rfl) (Nat.le_of_ble_eq_true rfl) (r241 n v1 x70 x72 x74 w _ q77) (by decide +kernel) g88 ?_
                                                      refine rn_aload_n (ft272 714 rfl) rfl ?_
                                                      refine rn_aload_nS (ft272 715 rfl) rfl ?_
                                                      refine rn_iload_n (ft272 716 rfl) rfl ?_
                                                      refine rn_iconst (v := (1 : Int32)) (ft272 717 rfl) (by decide) ?_
                                                      refine rn_iadd (ft272 718 rfl) ?_
                                                      obtain ⟨x78, q79, h⟩ := ob_some h
                                                      refine rn_ialoadS (ft272 719 rfl) q79 ?_
                                                      refine rn_aload_nS (ft272 720 rfl) rfl ?_
                                                      refine rn_iload_n (ft272 721 rfl) rfl ?_
                                                      refine rn_iconst (v := (2 : Int32)) (ft272 722 rfl) (by decide) ?_
                                                      refine rn_iadd (ft272 723 rfl) ?_
                                                      obtain ⟨x80, q81, h⟩ := ob_some h
                                                      refine rn_ialoadS (ft272 724 rfl) q81 ?_
                                                      refine rn_aload_nS (ft272 725 rfl) rfl ?_
                                                      refine rn_iload_n (ft272 726 rfl) rfl ?_
                                                      refine rn_iconst (v := (3 : Int32)) (ft272 727 rfl) (by decide) ?_
                                                      refine rn_iadd (ft272 728 rfl) ?_
                                                      obtain ⟨x82, q83, h⟩ := ob_some h
                                                      refine rn_ialoadS (ft272 729 rfl) q83 ?_
                                                      obtain ⟨g87, h⟩ := ifg h
                                                      obtain ⟨p84, q85, h⟩ := ob_some h
                                                      refine rn_callV (as := [.int x78, .int x80, .int x82]) (k0 := v2) (r := [.int p76.1]) (v := (some (.int p84.1))) (w1 := p84.2) (ft272 730 rfl) (by decide +kernel) rfl (Nat.le_of_ble_eq_true rfl) (Nat.le_of_ble_eq_true rfl) (r254 n v2 x78 x80 x82 p76.2 _ q85) (by decide +kernel) g87 ?_
                                                      by_cases c86 : p76.1 = p84.1
                                                      · replace h := ifp c86 h
                                                        refine rn_icmp_eq_t (ft272 731 rfl) c86 ?_
                                                        refine rn_iinc (u := 6) (ls' := [some (.float 3), some (.ref v1), some (.ref v2), some (.int (v3 + (6 : Int32)))]) (ft272 839 rfl) rfl (by decide) rfl ?_
                                                        refine rn_goto (ft272 840 rfl) ?_
                                                        exact rn_forget (ls := [some (.float 3), some (.ref v1), some (.ref v2), some (.int (v3 + (6 : Int32)))]) (And.intro rfl (And.intro rfl (And.intro rfl (And.intro rfl trivial)))) (hrec10 v1 v2 (v3 + (6 : Int32)) p84.2 _ h)
                                                      · replace h := ifn c86 h
                                                        refine rn_icmp_eq_f (ft272 731 rfl) c86 ?_
                                                        refine rn_iconst (v := (0 : Int32)) (ft272 732 rfl) (by decide) ?_
                                                        cases h
                                                        exact rn_iretZ pr272 (by decide) (ft272 733 rfl)
                                                    · replace h := ifn c473 h
                                                      by_cases c474 : (x5 &&& (31 : Int32)) = 24
                                                      · replace h := ifp c474 h
                                                        refine rn_sw_i (e := 993) (pc' := 1026) (ft272 21 rfl) (by rw [c474]; decide) (by rw [c474]; rfl) (by decide) ?_
                                                        refine rn_aload_n (ft272 734 rfl) rfl ?_
                                                        refine rn_aload_nS (ft272 735 rfl) rfl ?_
                                                        refine rn_iload_n (ft272 736 rfl) rfl ?_
                                                        refine rn_iconst (v := (1 : Int32)) (ft272 737 rfl) (by decide) ?_
                                                        refine rn_iadd (ft272 738 rfl) ?_
                                                        obtain ⟨x59, q60, h⟩ := ob_some h
                                                        refine rn_ialoadS (ft272 739 rfl) q60 ?_
                                                        obtain ⟨g69, h⟩ := ifg h
                                                        obtain ⟨p61, q62, h⟩ := ob_some h
                                                        refine rn_callV (as := [.int x59]) (k0 := v1) (r := []) (v := (some (.int p61.1))) (w1 := p61.2) (ft272 740 rfl) (by decide +kernel) rfl (Nat.le_of_ble_eq_true rfl) (Nat.le_of_ble_eq_true rfl) (r37 v1 x59 w _ q62) (by decide +kernel) g69 ?_
                                                        refine rn_aload_n (ft272 741 rfl) rfl ?_
                                                        refine rn_aload_nS (ft272 742 rfl) rfl ?_
                                                        refine rn_iload_n (ft272 743 rfl) rfl ?_
                                                        refine rn_iconst (v := (1 : Int32)) (ft272 744 rfl) (by decide) ?_
                                                        refine rn_iadd (ft272 745 rfl) ?_
                                                        obtain ⟨x63, q64, h⟩ := ob_some h
                                                        refine rn_ialoadS (ft272 746 rfl) q64 ?_
                                                        obtain ⟨g68, h⟩ := ifg h
                                                        obtain ⟨p65, q66, h⟩ := ob_some h
                                                        refine rn_callV (as := [.int x63]) (k0 := v2) (r := [.int p61.1]) (v := (some (.int p65.1))) (w1 := p65.2) (ft272 747 rfl) (by decide +kernel) rfl (Nat.le_of_ble_eq_true rfl) (Nat.le_of_ble_eq_true rfl) (r62 v2 x63 p61.2 _ q66) (by decide +kernel) g68 ?_
                                                        by_cases c67 : p61.1 = p65.1
                                                        · replace h := ifp c67 h
                                                          refine rn_icmp_eq_t (ft272 748 rfl) c67 ?_
                                                          refine rn_iinc (u := 6) (ls' := [some (.float 3), some (.ref v1), some (.ref v2), some (.int (v3 + (6 : Int32)))]) (ft272 839 rfl) rfl (by decide) rfl ?_
                                                          refine rn_goto (ft272 840 rfl) ?_
                                                          exact rn_forget (ls := [some (.float 3), some (.ref v1), some (.ref v2), some (.int (v3 + (6 : Int32)))]) (And.intro rfl (And.intro rfl (And.intro rfl (And.intro rfl trivial)))) (hrec10 v1 v2 (v3 + (6 : Int32)) p65.2 _ h)
                                                        · replace h := ifn c67 h
                                                          refine rn_icmp_eq_f (ft272 748 rfl) c67 ?_
                                                          refine rn_iconst (v := (0 : Int32)) (ft272 749 rfl) (by decide) ?_
                                                          cases h
                                                          exact rn_iretZ pr272 (by decide) (ft272 750 rfl)
                                                      · replace h := ifn c474 h
                                                        by_cases c475 : (x5 &&& (31 : Int32)) = 25
                                                        · replace h := ifp c475 h
                                                          refine rn_sw_i (e := 1016) (pc' := 1049) (ft272 21 rfl) (by rw [c475]; decide) (by rw [c475]; rfl) (by decide) ?_
                                                          refine rn_aload_n (ft272 751 rfl) rfl ?_
                                                          refine rn_aload_nS (ft272 752 rfl) rfl ?_
                                                          refine rn_iload_n (ft272 753 rfl) rfl ?_
                                                          refine rn_iconst (v := (1 : Int32)) (ft272 754 rfl) (by decide) ?_
                                                          refine rn_iadd (ft272 755 rfl) ?_
                                                          obtain ⟨x40, q41, h⟩ := ob_some h
                                                          refine rn_ialoadS (ft272 756 rfl) q41 ?_
                                                          refine rn_aload_nS (ft272 757 rfl) rfl ?_
                                                          refine rn_iload_n (ft272 758 rfl) rfl ?_
                                                          refine rn_iconst (v := (2 : Int32)) (ft272 759 rfl) (by decide) ?_
                                                          refine rn_iadd (ft272 760 rfl) ?_
                                                          obtain ⟨x42, q43, h⟩ := ob_some h
                                                          refine rn_ialoadS (ft272 761 rfl) q43 ?_
                                                          refine rn_aload_nS (ft272 762 rfl) rfl ?_
                                                          refine rn_iload_n (ft272 763 rfl) rfl ?_
                                                          refine rn_iconst (v := (3 : Int32)) (ft272 764 rfl) (by decide) ?_
                                                          refine rn_iadd (ft272 765 rfl) ?_
                                                          obtain ⟨x44, q45, h⟩ := ob_some h
                                                          refine rn_ialoadS (ft272 766 rfl) q45 ?_
                                                          obtain ⟨g58, h⟩ := ifg h
                                                          obtain ⟨p46, q47, h⟩ := ob_some h
                                                          refine rn_callV (as := [.int x40, .int x42, .int x44]) (k0 := v1) (r := []) (v := (some (.int p46.1))) (w1 := p46.2) (ft272 767 rfl) (by decide +kernel) rfl (Nat.le_of_ble_eq_true rfl) (Nat.le_of_ble_eq_true rfl) (r242 n v1 x40 x42 x44 w _ q47) (by decide +kernel) g58 ?_
                                                          refine rn_aload_n (ft272 768 rfl) rfl ?_
                                                          refine rn_aload_nS (ft272 769 rfl) rfl ?_
                                                          refine rn_iload_n (ft272 770 rfl) rfl ?_
                                                          refine rn_iconst (v := (1 : Int32)) (ft272 771 rfl) (by decide) ?_
                                                          refine rn_iadd (ft272 772 rfl) ?_
                                                          obtain ⟨x48, q49, h⟩ := ob_some h
                                                          refine rn_ialoadS (ft272 773 rfl) q49 ?_
                                                          refine rn_aload_nS (ft272 774 rfl) rfl ?_
                                                          refine rn_iload_n (ft272 775 rfl) rfl ?_
                                                          refine rn_iconst (v := (2 : Int32)) (ft272 776 rfl) (by decide) ?_
                                                          refine rn_iadd (ft272 777 rfl) ?_
                                                          obtain ⟨x50, q51, h⟩ := ob_some h
                                                          refine rn_ialoadS (ft272 778 rfl) q51 ?_
                                                          refine rn_aload_nS (ft272 779 rfl) rfl ?_
                                                          refine rn_iload_n (ft272 780 rfl) rfl ?_
                                                          refine rn_iconst (v := (3 : Int32)) (ft272 781 rfl) (by decide) ?_
                                                          refine rn_iadd (ft272 782 rfl) ?_
                                                          obtain ⟨x52, q53, h⟩ := ob_some h
                                                          refine rn_ialoadS (ft272 783 rfl) q53 ?_
                                                          obtain ⟨g57, h⟩ := ifg h
                                                          obtain ⟨p54, q55, h⟩ := ob_some h
                                                          refine rn_callV (as := [.int x48, .int x50, .int x52]) (k0 := v2) (r := [.int p46.1]) (v := (some (.int p54.1))) (w1 := p54.2) (ft272 784 rfl) (by decide +kernel) rfl (Nat.le_of_ble_eq_true rfl) (Nat.le_of_ble_eq_true rfl) (r231 n v2 x48 x50 x52 p46.2 _ q55) (by decide +kernel) g57 ?_
                                                          by_cases c56 : p46.1 = p54.1
                                                          · replace h := ifp c56 h
                                                            refine rn_icmp_eq_t (ft272 785 rfl) c56 ?_
                                                            refine rn_iinc (u := 6) (ls' := [some (.float 3), some (.ref v1), some (.ref v2), some (.int (v3 + (6 : Int32)))]) (ft272 839 rfl) rfl (by decide) rfl ?_
                                                            refine rn_goto (ft272 840 rfl) ?_
                                                            exact rn_forget (ls := [some (.float 3), some (.ref v1), some (.ref v2), some (.int (v3 + (6 : Int32)))]) (And.intro rfl (And.intro rfl (And.intro rfl (And.intro rfl trivial)))) (hrec10 v1 v2 (v3 + (6 : Int32)) p54.2 _ h)
                                                          · replace h := ifn c56 h
                                                            refine rn_icmp_eq_f (ft272 785 rfl) c56 ?_
                                                            refine rn_iconst (v := (0 : Int32)) (ft272 786 rfl) (by decide) ?_
                                                            cases h
                                                            exact rn_iretZ pr272 (by decide) (ft272 787 rfl)
                                                        · replace h := ifn c475 h
                                                          by_cases c476 : (x5 &&& (31 : Int32)) = 26
                                                          · replace h := ifp c476 h
                                                            refine rn_sw_i (e := 1059) (pc' := 1092) (ft272 21 rfl) (by rw [c476]; decide) (by rw [c476]; rfl) (by decide) ?_
                                                            refine rn_aload_n (ft272 788 rfl) rfl ?_
                                                            refine rn_aload_nS (ft272 789 rfl) rfl ?_
                                                            refine rn_iload_n (ft272 790 rfl) rfl ?_
                                                            refine rn_iconst (v := (1 : Int32)) (ft272 791 rfl) (by decide) ?_
                                                            refine rn_iadd (ft272 792 rfl) ?_
                                                            obtain ⟨x29, q30, h⟩ := ob_some h
                                                            refine rn_ialoadS (ft272 793 rfl) q30 ?_
                                                            obtain ⟨g39, h⟩ := ifg h
                                                            obtain ⟨p31, q32, h⟩ := ob_some h
                                                            refine rn_callV (as := [.int x29]) (k0 := v1) (r := []) (v := (some (.int p31.1))) (w1 := p31.2) (ft272 794 rfl) (by decide +kernel) rfl (Nat.le_of_ble_eq_true rfl) (Nat.le_of_ble_eq_true rfl) (r38 v1 x29 w _ q32) (by decide +kernel) g39 ?_
                                                            refine rn_aload_n (ft272 795 rfl) rfl ?_
                                                            refine rn_aload_nS (ft272 796 rfl) rfl ?_
                                                            refine rn_iload_n (ft272 797 rfl) rfl ?_
                                                            refine rn_iconst (v := (1 : Int32)) (ft272 798 rfl) (by decide) ?_
                                                            refine rn_iadd (ft272 799 rfl) ?_
                                                            obtain ⟨x33, q34, h⟩ := ob_some h
                                                            refine rn_ialoadS (ft272 800 rfl) q34 ?_
                                                            obtain ⟨g38, h⟩ := ifg h
                                                            obtain ⟨p35, q36, h⟩ := ob_some h
                                                            refine rn_callV (as := [.int x33]) (k0 := v2) (r := [.int p31.1]) (v := (some (.int p35.1))) (w1 := p35.2) (ft272 801 rfl) (by decide +kernel) rfl (Nat.le_of_ble_eq_true rfl) (Nat.le_of_ble_eq_true rfl) (r64 v2 x33 p31.2 _ q36) (by decide +kernel) g38 ?_
                                                            by_cases c37 : p31.1 = p35.1
                                                            · replace h := ifp c37 h
                                                              refine rn_icmp_eq_t (ft272 802 rfl) c37 ?_
                                                              refine rn_iinc (u := 6) (ls' := [some (.float 3), some (.ref v1), some (.ref v2), some (.int (v3 + (6 : Int32)))]) (ft272 839 rfl) rfl (by decide) rfl ?_
                                                              refine rn_goto (ft272 840 rfl) ?_
                                                              exact rn_forget (ls := [some (.float 3), some (.ref v1), some (.ref v2), some (.int (v3 + (6 : Int32)))]) (And.intro rfl (And.intro rfl (And.intro rfl (And.intro rfl trivial)))) (hrec10 v1 v2 (v3 + (6 : Int32)) p35.2 _ h)
                                                            · replace h := ifn c37 h
                                                              refine rn_icmp_eq_f (ft272 802 rfl) c37 ?_
                                                              refine rn_iconst (v := (0 : Int32)) (ft272 803 rfl) (by decide) ?_
                                                              cases h
                                                              exact rn_iretZ pr272 (by decide) (ft272 804 rfl)
                                                          · replace h := ifn c476 h
                                                            by_cases c477 : (x5 &&& (31 : Int32)) = 27
                                                            · replace h := ifp c477 h
                                                              refine rn_sw_i (e := 1082) (pc' := 1115) (ft272 21 rfl) (by rw [c477]; decide) (by rw [c477]; rfl) (by decide) ?_
                                                              refine rn_aload_n (ft272 805 rfl) rfl ?_
                                                              refine rn_aload_nS (ft272 806 rfl) rfl ?_
                                                              refine rn_iload_n (ft272 807 rfl) rfl ?_
                                                              refine rn_iconst (v := (1 : Int32)) (ft272 808 rfl) (by decide) ?_
                                                              refine rn_iadd (ft272 809 rfl) ?_
                                                              obtain ⟨x18, q19, h⟩ := ob_some h
                                                              refine rn_ialoadS (ft272 810 rfl) q19 ?_
                                                              obtain ⟨g28, h⟩ := ifg h
                                                              obtain ⟨p20, q21, h⟩ := ob_some h
                                                              refine rn_callV (as := [.int x18]) (k0 := v1) (r := []) (v := (some (.int p20.1))) (w1 := p20.2) (ft272 811 rfl) (by decide +kernel) rfl (Nat.le_of_ble_eq_true rfl) (Nat.le_of_ble_eq_true rfl) (r159 n v1 x18 w _ q21) (by decide +kernel) g28 ?_
                                                              refine rn_aload_n (ft272 812 rfl) rfl ?_
                                                              refine rn_aload_nS (ft272 813 rfl) rfl ?_
                                                              refine rn_iload_n (ft272 814 rfl) rfl ?_
                                                              refine rn_iconst (v := (1 : Int32)) (ft272 815 rfl) (by decide) ?_
                                                              refine rn_iadd (ft272 816 rfl) ?_
                                                              obtain ⟨x22, q23, h⟩ := ob_some h
                                                              refine rn_ialoadS (ft272 817 rfl) q23 ?_
                                                              obtain ⟨g27, h⟩ := ifg h
                                                              obtain ⟨p24, q25, h⟩ := ob_some h
                                                              refine rn_callV (as := [.int x22]) (k0 := v2) (r := [.int p20.1]) (v := (some (.int p24.1))) (w1 := p24.2) (ft272 818 rfl) (by decide +kernel) rfl (Nat.le_of_ble_eq_true rfl) (Nat.le_of_ble_eq_true rfl) (r133 n v2 x22 p20.2 _ q25) (by decide +kernel) g27 ?_
                                                              by_cases c26 : p20.1 = p24.1
                                                              · replace h := ifp c26 h
                                                                refine rn_icmp_eq_t (ft272 819 rfl) c26 ?_
                                                                refine rn_iinc (u := 6) (ls' := [some (.float 3), some (.ref v1), some (.ref v2), some (.int (v3 + (6 : Int32)))]) (ft272 839 rfl) rfl (by decide) rfl ?_
                                                                refine rn_goto (ft272 840 rfl) ?_
                                                                exact rn_forget (ls := [some (.float 3), some (.ref v1), some (.ref v2), some (.int (v3 + (6 : Int32)))]) (And.intro rfl (And.intro rfl (And.intro rfl (And.intro rfl trivial)))) (hrec10 v1 v2 (v3 + (6 : Int32)) p24.2 _ h)
                                                              · replace h := ifn c26 h
                                                                refine rn_icmp_eq_f (ft272 819 rfl) c26 ?_
                                                                refine rn_iconst (v := (0 : Int32)) (ft272 820 rfl) (by decide) ?_
                                                                cases h
                                                                exact rn_iretZ pr272 (by decide) (ft272 821 rfl)
                                                            · replace h := ifn c477 h
                                                              by_cases c478 : (x5 &&& (31 : Int32)) = 28
                                                              · replace h := ifp c478 h
                                                                refine rn_sw_i (e := 1105) (pc' := 1138) (ft272 21 rfl) (by rw [c478]; decide) (by rw [c478]; rfl) (by decide) ?_
                                                                refine rn_aload_n (ft272 822 rfl) rfl ?_
                                                                refine rn_aload_nS (ft272 823 rfl) rfl ?_
                                                                refine rn_iload_n (ft272 824 rfl) rfl ?_
                                                                refine rn_iconst (v := (1 : Int32)) (ft272 825 rfl) (by decide) ?_
                                                                refine rn_iadd (ft272 826 rfl) ?_
                                                                obtain ⟨x7, q8, h⟩ := ob_some h
                                                                refine rn_ialoadS (ft272 827 rfl) q8 ?_
                                                                obtain ⟨g17, h⟩ := ifg h
                                                                obtain ⟨p9, q10, h⟩ := ob_some h
                                                                refine rn_callV (as := [.int x7]) (k0 := v1) (r := []) (v := (some (.int p9.1))) (w1 := p9.2) (ft272 828 rfl) (by decide +kernel) rfl (Nat.le_of_ble_eq_true rfl) (Nat.le_of_ble_eq_true rfl) (r160 n v1 x7 w _ q10) (by decide +kernel) g17 ?_
                                                                refine rn_aload_n (ft272 829 rfl) rfl ?_
                                                                refine rn_aload_nS (ft272 830 rfl) rfl ?_
                                                                refine rn_iload_n (ft272 831 rfl) rfl ?_
                                                                refine rn_iconst (v := (1 : Int32)) (ft272 832 rfl) (by decide) ?_
                                                                refine rn_iadd (ft272 833 rfl) ?_
                                                                obtain ⟨x11, q12, h⟩ := ob_some h
                                                                refine rn_ialoadS (ft272 834 rfl) q12 ?_
                                                                obtain ⟨g16, h⟩ := ifg h
                                                                obtain ⟨p13, q14, h⟩ := ob_some h
                                                                refine rn_callV (as := [.int x11]) (k0 := v2) (r := [.int p9.1]) (v := (some (.int p13.1))) (w1 := p13.2) (ft272 835 rfl) (by decide +kernel) rfl (Nat.le_of_ble_eq_true rfl) (Nat.le_of_ble_eq_true rfl) (r134 n v2 x11 p9.2 _ q14) (by decide +kernel) g16 ?_
                                                                by_cases c15 : p9.1 = p13.1
                                                                · replace h := ifp c15 h
                                                                  refine rn_icmp_eq_t (ft272 836 rfl) c15 ?_
                                                                  refine rn_iinc (u := 6) (ls' := [some (.float 3), some (.ref v1), some (.ref v2), some (.int (v3 + (6 : Int32)))]) (ft272 839 rfl) rfl (by decide) rfl ?_
                                                                  refine rn_goto (ft272 840 rfl) ?_
                                                                  exact rn_forget (ls := [some (.float 3), some (.ref v1), some (.ref v2), some (.int (v3 + (6 : Int32)))]) (And.intro rfl (And.intro rfl (And.intro rfl (And.intro rfl trivial)))) (hrec10 v1 v2 (v3 + (6 : Int32)) p13.2 _ h)
                                                                · replace h := ifn c15 h
                                                                  refine rn_icmp_eq_f (ft272 836 rfl) c15 ?_
                                                                  refine rn_iconst (v := (0 : Int32)) (ft272 837 rfl) (by decide) ?_
                                                                  cases h
                                                                  exact rn_iretZ pr272 (by decide) (ft272 838 rfl)
                                                              · replace h := ifn c478 h
                                                                have hsw := sw_out (v := (x5 &&& (31 : Int32))) (N := 28) (by omega) (fun j hj => by
                                                                  have hj2 : j = 0 ∨ j = 1 ∨ j = 2 ∨ j = 3 ∨ j = 4 ∨ j = 5 ∨ j = 6 ∨ j = 7 ∨ j = 8 ∨ j = 9 ∨ j = 10 ∨ j = 11 ∨ j = 12 ∨ j = 13 ∨ j = 14 ∨ j = 15 ∨ j = 16 ∨ j = 17 ∨ j = 18 ∨ j = 19 ∨ j = 20 ∨ j = 21 ∨ j = 22 ∨ j = 23 ∨ j = 24 ∨ j = 25 ∨ j = 26 ∨ j = 27 ∨ j = 28 := by omega
                                                                  rcases hj2 with rfl | rfl | rfl | rfl | rfl | rfl | rfl | rfl | rfl | rfl | rfl | rfl | rfl | rfl | rfl | rfl | rfl | rfl | rfl | rfl | rfl | rfl | rfl | rfl | rfl | rfl | rfl | rfl | rfl
                                                                  · exact c450
                                                                  · exact c451
                                                                  · exact c452
                                                                  · exact c453
                                                                  · exact c454
                                                                  · exact c455
                                                                  · exact c456
                                                                  · exact c457
                                                                  · exact c458
                                                                  · exact c459
                                                                  · exact c460
                                                                  · exact c461
                                                                  · exact c462
                                                                  · exact c463
                                                                  · exact c464
                                                                  · exact c465
                                                                  · exact c466
                                                                  · exact c467
                                                                  · exact c468
                                                                  · exact c469
                                                                  · exact c470
                                                                  · exact c471
                                                                  · exact c472
                                                                  · exact c473
                                                                  · exact c474
                                                                  · exact c475
                                                                  · exact c476
                                                                  · exact c477
                                                                  · exact c478)
                                                                refine rn_sw_d (ft272 21 rfl) hsw (by decide) ?_
                                                                refine rn_iinc (u := 6) (ls' := [some (.float 3), some (.ref v1), some (.ref v2), some (.int (v3 + (6 : Int32)))]) (ft272 839 rfl) rfl (by decide) rfl ?_
                                                                refine rn_goto (ft272 840 rfl) ?_
                                                                exact rn_forget (ls := [some (.float 3), some (.ref v1), some (.ref v2), some (.int (v3 + (6 : Int32)))]) (And.intro rfl (And.intro rfl (And.intro rfl (And.intro rfl trivial)))) (hrec10 v1 v2 (v3 + (6 : Int32)) w _ h)
def f272 (S : Sc) (n : Nat)  (w : Wd) : Option (Int32 × Wd) :=
  ob (f174 (wn w) (newC w 10 (NF 10))) (fun p1 => ob (f109 (wn p1) (newC p1 11 (NF 11))) (fun p3 => f272_H18 S n  (fun  (w481 : Wd) => some ((1 : Int32), w481)) n (wn w) (wn p1) (0 : Int32) p3))
set_option maxHeartbeats 20000000 in
set_option maxRecDepth 10000 in
theorem r272 {S : Sc} (n : Nat)  (w : Wd) (o : (Int32 × Wd)) (h : f272 S n  w = some o) : Rn S 272 0 [some (.float 3), none, none, none] [] w (some (.int o.1), o.2) := by
  unfold f272 at h
  refine rn_new (ft272 0 rfl) ?_
  refine rn_dup (ft272 1 rfl) rfl ?_
  obtain ⟨p1, q2, h⟩ := ob_some h
  refine rn_callI (as := []) (k0 := (wn w)) (r := [.ref (wn w)]) (v := none) (w1 := p1) (ft272 2 rfl) (by decide +kernel) rfl (Nat.le_of_ble_eq_true rfl) (Nat.le_of_ble_eq_true rfl) (r174 (wn w) (newC w 10 (NF 10)) _ q2) ?_
  refine rn_astore_n (ls' := [some (.float 3), some (.ref (wn w)), none, none]) (ft272 3 rfl) rfl ?_
  refine rn_new (ft272 4 rfl) ?_
  refine rn_dup (ft272 5 rfl) rfl ?_
  obtain ⟨p3, q4, h⟩ := ob_some h
  refine rn_callI (as := []) (k0 := (wn p1)) (r := [.ref (wn p1)]) (v := none) (w1 := p3) (ft272 6 rfl) (by decide +kernel) rfl (Nat.le_of_ble_eq_true rfl) (Nat.le_of_ble_eq_true rfl) (r109 (wn p1) (newC p1 11 (NF 11)) _ q4) ?_
  refine rn_astore_n (ls' := [some (.float 3), some (.ref (wn w)), some (.ref (wn p1)), none]) (ft272 7 rfl) rfl ?_
  refine rn_iconst (v := (0 : Int32)) (ft272 8 rfl) (by decide) ?_
  refine rn_istore_n (ls' := [some (.float 3), some (.ref (wn w)), some (.ref (wn p1)), some (.int (0 : Int32))]) (ft272 9 rfl) rfl ?_
  refine rn_forget (ls := [some (.float 3), some (.ref (wn w)), some (.ref (wn p1)), some (.int (0 : Int32))]) (And.intro rfl (And.intro rfl (And.intro rfl (And.intro rfl trivial)))) (rf272_H18 n  _  (fun  w481 o h => ?_) n (wn w) (wn p1) (0 : Int32) p3 _ h)
  refine rn_iconst (v := (1 : Int32)) (ft272 841 rfl) (by decide) ?_
  cases h
  exact rn_iretZ pr272 (by decide) (ft272 842 rfl)
