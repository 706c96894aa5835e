def f_L_law_1326 (L : Nat) (xs : Nat → Int32) (κ18 : Mem → Int32 → Option (Int32 × Mem)) (μ_1326 : Mem) (b3_1326 : Int32) : Option (Int32 × Mem) :=
  (some (b3_1326 + (6 : Int32))).bind fun v443 =>
  κ18 μ_1326 v443
def f_L_law_350 (L : Nat) (xs : Nat → Int32) (κ18 : Mem → Int32 → Option (Int32 × Mem)) (μ_350 : Mem) (b3_350 : Int32) (s0_350 : Int32) (s1_350 : Int32) (s3_350 : Int32) : Option (Int32 × Mem) :=
  (f_X7_smash μ_350 s1_350 s0_350).bind fun p447 =>
  if s3_350 = p447.1 then
    f_L_law_1326 L xs κ18 p447.2 b3_350
  else
    some ((0 : Int32), p447.2)
def f_L_law_328 (L : Nat) (xs : Nat → Int32) (κ18 : Mem → Int32 → Option (Int32 × Mem)) (μ_328 : Mem) (b3_328 : Int32) (s0_328 : Int32) (s1_328 : Int32) : Option (Int32 × Mem) :=
  (f_X6_smash μ_328 s1_328 s0_328).bind fun p452 =>
  (ldF xs L (b3_328 + (1 : Int32))).bind fun v453 =>
  (ldF xs L (b3_328 + (2 : Int32))).bind fun v454 =>
  if v454 = (0 : Int32) then
    f_L_law_350 L xs κ18 p452.2 b3_328 (0 : Int32) v453 p452.1
  else
    f_L_law_350 L xs κ18 p452.2 b3_328 (1 : Int32) v453 p452.1
def f_L_law_721 (L : Nat) (xs : Nat → Int32) (κ18 : Mem → Int32 → Option (Int32 × Mem)) (μ_721 : Mem) (b3_721 : Int32) (s0_721 : Int32) (s1_721 : Int32) (s2_721 : Int32) (s4_721 : Int32) : Option (Int32 × Mem) :=
  (f_X7_hear μ_721 s2_721 s1_721 s0_721).bind fun p459 =>
  if s4_721 = p459.1 then
    f_L_law_1326 L xs κ18 p459.2 b3_721
  else
    some ((0 : Int32), p459.2)
def f_L_law_694 (L : Nat) (xs : Nat → Int32) (κ18 : Mem → Int32 → Option (Int32 × Mem)) (μ_694 : Mem) (b3_694 : Int32) (s0_694 : Int32) (s1_694 : Int32) (s2_694 : Int32) : Option (Int32 × Mem) :=
  (f_X6_hear μ_694 s2_694 s1_694 s0_694).bind fun p464 =>
  (ldF xs L (b3_694 + (1 : Int32))).bind fun v465 =>
  (ldF xs L (b3_694 + (2 : Int32))).bind fun v466 =>
  (ldF xs L (b3_694 + (3 : Int32))).bind fun v467 =>
  if v467 = (0 : Int32) then
    f_L_law_721 L xs κ18 p464.2 b3_694 (0 : Int32) v466 v465 p464.1
  else
    f_L_law_721 L xs κ18 p464.2 b3_694 (1 : Int32) v466 v465 p464.1
def f_L_law_18 (L : Nat) (xs : Nat → Int32) : Nat → Mem → Int32 → Option (Int32 × Mem)
  | 0, _, _ => none
  | n + 1, μ_18, b3_18 =>
    if ((Int32.ofNat L) - (6 : Int32)) < b3_18 then
      some ((1 : Int32), μ_18)
    else
      (ldF xs L b3_18).bind fun v470 =>
      (some (v470 &&& (63 : Int32))).bind fun v471 =>
      if v471 = (0 : Int32) then
        (ldF xs L (b3_18 + (1 : Int32))).bind fun v473 =>
        (ldF xs L (b3_18 + (2 : Int32))).bind fun v474 =>
        (ldF xs L (b3_18 + (3 : Int32))).bind fun v475 =>
        (ldF xs L (b3_18 + (4 : Int32))).bind fun v476 =>
        (f_X6_egg μ_18 v473 v474 v475 v476).bind fun p480 =>
        (ldF xs L (b3_18 + (1 : Int32))).bind fun v481 =>
        (ldF xs L (b3_18 + (2 : Int32))).bind fun v482 =>
        (ldF xs L (b3_18 + (3 : Int32))).bind fun v483 =>
        (ldF xs L (b3_18 + (4 : Int32))).bind fun v484 =>
        (f_X7_egg p480.2 v481 v482 v483 v484).bind fun p488 =>
        if p480.1 = p488.1 then
          f_L_law_1326 L xs (fun μ z0 => f_L_law_18 L xs n μ z0) p488.2 b3_18
        else
          some ((0 : Int32), p488.2)
      else if v471 = (1 : Int32) then
        (ldF xs L (b3_18 + (1 : Int32))).bind fun v491 =>
        (ldF xs L (b3_18 + (2 : Int32))).bind fun v492 =>
        (f_X6_of μ_18 v491 v492).bind fun p496 =>
        (ldF xs L (b3_18 + (1 : Int32))).bind fun v497 =>
        (ldF xs L (b3_18 + (2 : Int32))).bind fun v498 =>
        (f_X7_of p496.2 v497 v498).bind fun p502 =>
        if p496.1 = p502.1 then
          f_L_law_1326 L xs (fun μ z0 => f_L_law_18 L xs n μ z0) p502.2 b3_18
        else
          some ((0 : Int32), p502.2)
      else if v471 = (2 : Int32) then
        (ldF xs L (b3_18 + (1 : Int32))).bind fun v505 =>
        (ldF xs L (b3_18 + (2 : Int32))).bind fun v506 =>
        (ldF xs L (b3_18 + (3 : Int32))).bind fun v507 =>
        (f_X6_set μ_18 v505 v506 v507).bind fun p511 =>
        (ldF xs L (b3_18 + (1 : Int32))).bind fun v512 =>
        (ldF xs L (b3_18 + (2 : Int32))).bind fun v513 =>
        (ldF xs L (b3_18 + (3 : Int32))).bind fun v514 =>
        (f_X7_set p511.2 v512 v513 v514).bind fun p518 =>
        if p511.1 = p518.1 then
          f_L_law_1326 L xs (fun μ z0 => f_L_law_18 L xs n μ z0) p518.2 b3_18
        else
          some ((0 : Int32), p518.2)
      else if v471 = (3 : Int32) then
        (ldF xs L (b3_18 + (1 : Int32))).bind fun v521 =>
        (ldF xs L (b3_18 + (2 : Int32))).bind fun v522 =>
        if v522 = (0 : Int32) then
          f_L_law_328 L xs (fun μ z0 => f_L_law_18 L xs n μ z0) μ_18 b3_18 (0 : Int32) v521
        else
          f_L_law_328 L xs (fun μ z0 => f_L_law_18 L xs n μ z0) μ_18 b3_18 (1 : Int32) v521
      else if v471 = (4 : Int32) then
        (ldF xs L (b3_18 + (1 : Int32))).bind fun v525 =>
        (f_X6_listen μ_18 v525).bind fun p529 =>
        (ldF xs L (b3_18 + (1 : Int32))).bind fun v530 =>
        (f_X7_listen p529.2 v530).bind fun p534 =>
        if p529.1 = p534.1 then
          f_L_law_1326 L xs (fun μ z0 => f_L_law_18 L xs n μ z0) p534.2 b3_18
        else
          some ((0 : Int32), p534.2)
      else if v471 = (5 : Int32) then
        (ldF xs L (b3_18 + (1 : Int32))).bind fun v537 =>
        (ldF xs L (b3_18 + (2 : Int32))).bind fun v538 =>
        (ldF xs L (b3_18 + (3 : Int32))).bind fun v539 =>
        (f_X6_row μ_18 v537 v538 v539).bind fun p543 =>
        (ldF xs L (b3_18 + (1 : Int32))).bind fun v544 =>
        (ldF xs L (b3_18 + (2 : Int32))).bind fun v545 =>
        (ldF xs L (b3_18 + (3 : Int32))).bind fun v546 =>
        (f_X7_row p543.2 v544 v545 v546).bind fun p550 =>
        if p543.1 = p550.1 then
          f_L_law_1326 L xs (fun μ z0 => f_L_law_18 L xs n μ z0) p550.2 b3_18
        else
          some ((0 : Int32), p550.2)
      else if v471 = (6 : Int32) then
        (ldF xs L (b3_18 + (1 : Int32))).bind fun v553 =>
        (f_X6_feed μ_18 v553).bind fun p557 =>
        (ldF xs L (b3_18 + (1 : Int32))).bind fun v558 =>
        (f_X7_feed p557.2 v558).bind fun p562 =>
        if p557.1 = p562.1 then
          f_L_law_1326 L xs (fun μ z0 => f_L_law_18 L xs n μ z0) p562.2 b3_18
        else
          some ((0 : Int32), p562.2)
      else if v471 = (7 : Int32) then
        (f_X6_store μ_18).bind fun p568 =>
        (f_X7_store p568.2).bind fun p572 =>
        if p568.1 = p572.1 then
          f_L_law_1326 L xs (fun μ z0 => f_L_law_18 L xs n μ z0) p572.2 b3_18
        else
          some ((0 : Int32), p572.2)
      else if v471 = (8 : Int32) then
        (ldF xs L (b3_18 + (1 : Int32))).bind fun v575 =>
        (f_X6_told μ_18 v575).bind fun p579 =>
        (ldF xs L (b3_18 + (1 : Int32))).bind fun v580 =>
        (f_X7_told p579.2 v580).bind fun p584 =>
        if p579.1 = p584.1 then
          f_L_law_1326 L xs (fun μ z0 => f_L_law_18 L xs n μ z0) p584.2 b3_18
        else
          some ((0 : Int32), p584.2)
      else if v471 = (9 : Int32) then
        (ldF xs L (b3_18 + (1 : Int32))).bind fun v587 =>
        (f_X6_pass μ_18 v587).bind fun p591 =>
        (ldF xs L (b3_18 + (1 : Int32))).bind fun v592 =>
        (f_X7_pass p591.2 v592).bind fun p596 =>
        if p591.1 = p596.1 then
          f_L_law_1326 L xs (fun μ z0 => f_L_law_18 L xs n μ z0) p596.2 b3_18
        else
          some ((0 : Int32), p596.2)
      else if v471 = (10 : Int32) then
        (ldF xs L (b3_18 + (1 : Int32))).bind fun v599 =>
        (ldF xs L (b3_18 + (2 : Int32))).bind fun v600 =>
        (f_X6_on μ_18 v599 v600).bind fun p604 =>
        (ldF xs L (b3_18 + (1 : Int32))).bind fun v605 =>
        (ldF xs L (b3_18 + (2 : Int32))).bind fun v606 =>
        (f_X7_on p604.2 v605 v606).bind fun p610 =>
        if p604.1 = p610.1 then
          f_L_law_1326 L xs (fun μ z0 => f_L_law_18 L xs n μ z0) p610.2 b3_18
        else
          some ((0 : Int32), p610.2)
      else if v471 = (11 : Int32) then
        (ldF xs L (b3_18 + (1 : Int32))).bind fun v613 =>
        (ldF xs L (b3_18 + (2 : Int32))).bind fun v614 =>
        (ldF xs L (b3_18 + (3 : Int32))).bind fun v615 =>
        (f_X6_often μ_18 v613 ((v614.toInt64 <<< ((32 : Int32).toInt64 &&& 63)) ||| (v615.toInt64 &&& (4294967295 : Int64)))).bind fun p619 =>
        (ldF xs L (b3_18 + (1 : Int32))).bind fun v620 =>
        (ldF xs L (b3_18 + (2 : Int32))).bind fun v621 =>
        (ldF xs L (b3_18 + (3 : Int32))).bind fun v622 =>
        (f_X7_often p619.2 v620 ((v621.toInt64 <<< ((32 : Int32).toInt64 &&& 63)) ||| (v622.toInt64 &&& (4294967295 : Int64)))).bind fun p626 =>
        if (lg_cmp p619.1 p626.1) = (0 : Int32) then
          f_L_law_1326 L xs (fun μ z0 => f_L_law_18 L xs n μ z0) p626.2 b3_18
        else
          some ((0 : Int32), p626.2)
      else if v471 = (12 : Int32) then
        (ldF xs L (b3_18 + (1 : Int32))).bind fun v629 =>
        (ldF xs L (b3_18 + (2 : Int32))).bind fun v630 =>
        (f_X6_together μ_18 v629 v630).bind fun p634 =>
        (ldF xs L (b3_18 + (1 : Int32))).bind fun v635 =>
        (ldF xs L (b3_18 + (2 : Int32))).bind fun v636 =>
        (f_X7_together p634.2 v635 v636).bind fun p640 =>
        if (lg_cmp p634.1 p640.1) = (0 : Int32) then
          f_L_law_1326 L xs (fun μ z0 => f_L_law_18 L xs n μ z0) p640.2 b3_18
        else
          some ((0 : Int32), p640.2)
      else if v471 = (13 : Int32) then
        (ldF xs L (b3_18 + (1 : Int32))).bind fun v643 =>
        (ldF xs L (b3_18 + (2 : Int32))).bind fun v644 =>
        (f_X6_busy μ_18 v643 v644).bind fun p648 =>
        (ldF xs L (b3_18 + (1 : Int32))).bind fun v649 =>
        (ldF xs L (b3_18 + (2 : Int32))).bind fun v650 =>
        (f_X7_busy p648.2 v649 v650).bind fun p654 =>
        if p648.1 = p654.1 then
          f_L_law_1326 L xs (fun μ z0 => f_L_law_18 L xs n μ z0) p654.2 b3_18
        else
          some ((0 : Int32), p654.2)
      else if v471 = (14 : Int32) then
        (ldF xs L (b3_18 + (1 : Int32))).bind fun v657 =>
        (ldF xs L (b3_18 + (2 : Int32))).bind fun v658 =>
        (ldF xs L (b3_18 + (3 : Int32))).bind fun v659 =>
        if v659 = (0 : Int32) then
          f_L_law_694 L xs (fun μ z0 => f_L_law_18 L xs n μ z0) μ_18 b3_18 (0 : Int32) v658 v657
        else
          f_L_law_694 L xs (fun μ z0 => f_L_law_18 L xs n μ z0) μ_18 b3_18 (1 : Int32) v658 v657
      else if v471 = (15 : Int32) then
        (ldF xs L (b3_18 + (1 : Int32))).bind fun v662 =>
        (ldF xs L (b3_18 + (2 : Int32))).bind fun v663 =>
        (ldF xs L (b3_18 + (3 : Int32))).bind fun v664 =>
        (f_X6_can μ_18 v662 v663 v664).bind fun p668 =>
        (ldF xs L (b3_18 + (1 : Int32))).bind fun v669 =>
        (ldF xs L (b3_18 + (2 : Int32))).bind fun v670 =>
        (ldF xs L (b3_18 + (3 : Int32))).bind fun v671 =>
        (f_X7_can p668.2 v669 v670 v671).bind fun p675 =>
        if p668.1 = p675.1 then
          f_L_law_1326 L xs (fun μ z0 => f_L_law_18 L xs n μ z0) p675.2 b3_18
        else
          some ((0 : Int32), p675.2)
      else if v471 = (16 : Int32) then
        (ldF xs L (b3_18 + (1 : Int32))).bind fun v678 =>
        (f_X6_odds μ_18 v678).bind fun p682 =>
        (ldF xs L (b3_18 + (1 : Int32))).bind fun v683 =>
        (f_X7_odds p682.2 v683).bind fun p687 =>
        if (lg_cmp p682.1 p687.1) = (0 : Int32) then
          f_L_law_1326 L xs (fun μ z0 => f_L_law_18 L xs n μ z0) p687.2 b3_18
        else
          some ((0 : Int32), p687.2)
      else if v471 = (17 : Int32) then
        (ldF xs L (b3_18 + (1 : Int32))).bind fun v690 =>
        (ldF xs L (b3_18 + (2 : Int32))).bind fun v691 =>
        (f_X6_mean μ_18 v690 v691).bind fun p695 =>
        (ldF xs L (b3_18 + (1 : Int32))).bind fun v696 =>
        (ldF xs L (b3_18 + (2 : Int32))).bind fun v697 =>
        (f_X7_mean p695.2 v696 v697).bind fun p701 =>
        if (lg_cmp p695.1 p701.1) = (0 : Int32) then
          f_L_law_1326 L xs (fun μ z0 => f_L_law_18 L xs n μ z0) p701.2 b3_18
        else
          some ((0 : Int32), p701.2)
      else if v471 = (18 : Int32) then
        (ldF xs L (b3_18 + (1 : Int32))).bind fun v704 =>
        (ldF xs L (b3_18 + (2 : Int32))).bind fun v705 =>
        (f_X6_plan μ_18 v704 v705).bind fun p709 =>
        (ldF xs L (b3_18 + (1 : Int32))).bind fun v710 =>
        (ldF xs L (b3_18 + (2 : Int32))).bind fun v711 =>
        (f_X7_plan p709.2 v710 v711).bind fun p715 =>
        if p709.1 = p715.1 then
          f_L_law_1326 L xs (fun μ z0 => f_L_law_18 L xs n μ z0) p715.2 b3_18
        else
          some ((0 : Int32), p715.2)
      else if v471 = (19 : Int32) then
        (ldF xs L (b3_18 + (1 : Int32))).bind fun v718 =>
        (f_X6_ends μ_18 v718).bind fun p722 =>
        (ldF xs L (b3_18 + (1 : Int32))).bind fun v723 =>
        (f_X7_ends p722.2 v723).bind fun p727 =>
        if p722.1 = p727.1 then
          f_L_law_1326 L xs (fun μ z0 => f_L_law_18 L xs n μ z0) p727.2 b3_18
        else
          some ((0 : Int32), p727.2)
      else if v471 = (20 : Int32) then
        (ldF xs L (b3_18 + (1 : Int32))).bind fun v730 =>
        (ldF xs L (b3_18 + (2 : Int32))).bind fun v731 =>
        (f_X6_book μ_18 v730 v731).bind fun p735 =>
        (ldF xs L (b3_18 + (1 : Int32))).bind fun v736 =>
        (ldF xs L (b3_18 + (2 : Int32))).bind fun v737 =>
        (f_X7_book p735.2 v736 v737).bind fun p741 =>
        if p735.1 = p741.1 then
          f_L_law_1326 L xs (fun μ z0 => f_L_law_18 L xs n μ z0) p741.2 b3_18
        else
          some ((0 : Int32), p741.2)
      else if v471 = (21 : Int32) then
        (f_X6_looked μ_18).bind fun v744 =>
        (f_X7_looked μ_18).bind fun v746 =>
        if v744 = v746 then
          f_L_law_1326 L xs (fun μ z0 => f_L_law_18 L xs n μ z0) μ_18 b3_18
        else
          some ((0 : Int32), μ_18)
      else if v471 = (22 : Int32) then
        (ldF xs L (b3_18 + (1 : Int32))).bind fun v750 =>
        (ldF xs L (b3_18 + (2 : Int32))).bind fun v751 =>
        (f_X6_judge μ_18 v750 v751).bind fun v752 =>
        (ldF xs L (b3_18 + (1 : Int32))).bind fun v754 =>
        (ldF xs L (b3_18 + (2 : Int32))).bind fun v755 =>
        (f_X7_judge μ_18 v754 v755).bind fun v756 =>
        if v752 = v756 then
          f_L_law_1326 L xs (fun μ z0 => f_L_law_18 L xs n μ z0) μ_18 b3_18
        else
          some ((0 : Int32), μ_18)
      else if v471 = (23 : Int32) then
        (f_X6_image μ_18).bind fun p763 =>
        (f_X7_image p763.2).bind fun p767 =>
        if p763.1 = p767.1 then
          f_L_law_1326 L xs (fun μ z0 => f_L_law_18 L xs n μ z0) p767.2 b3_18
        else
          some ((0 : Int32), p767.2)
      else if v471 = (24 : Int32) then
        (f_X6_undo μ_18).bind fun p773 =>
        (f_X7_undo p773.2).bind fun p777 =>
        if p773.1 = p777.1 then
          f_L_law_1326 L xs (fun μ z0 => f_L_law_18 L xs n μ z0) p777.2 b3_18
        else
          some ((0 : Int32), p777.2)
      else if v471 = (25 : Int32) then
        (ldF xs L (b3_18 + (1 : Int32))).bind fun v780 =>
        (ldF xs L (b3_18 + (2 : Int32))).bind fun v781 =>
        (ldF xs L (b3_18 + (3 : Int32))).bind fun v782 =>
        (f_X6_act μ_18 v780 v781 v782).bind fun p786 =>
        (ldF xs L (b3_18 + (1 : Int32))).bind fun v787 =>
        (ldF xs L (b3_18 + (2 : Int32))).bind fun v788 =>
        (ldF xs L (b3_18 + (3 : Int32))).bind fun v789 =>
        (f_X7_act p786.2 v787 v788 v789).bind fun p793 =>
        if p786.1 = p793.1 then
          f_L_law_1326 L xs (fun μ z0 => f_L_law_18 L xs n μ z0) p793.2 b3_18
        else
          some ((0 : Int32), p793.2)
      else if v471 = (26 : Int32) then
        (ldF xs L (b3_18 + (1 : Int32))).bind fun v796 =>
        (f_X6_trace μ_18 v796).bind fun v797 =>
        (ldF xs L (b3_18 + (1 : Int32))).bind fun v799 =>
        (f_X7_trace μ_18 v799).bind fun v800 =>
        if v797 = v800 then
          f_L_law_1326 L xs (fun μ z0 => f_L_law_18 L xs n μ z0) μ_18 b3_18
        else
          some ((0 : Int32), μ_18)
      else if v471 = (27 : Int32) then
        (ldF xs L (b3_18 + (1 : Int32))).bind fun v804 =>
        (ldF xs L (b3_18 + (2 : Int32))).bind fun v805 =>
        (f_X6_taken μ_18 v804 v805).bind fun v806 =>
        (ldF xs L (b3_18 + (1 : Int32))).bind fun v808 =>
        (ldF xs L (b3_18 + (2 : Int32))).bind fun v809 =>
        (f_X7_taken μ_18 v808 v809).bind fun v810 =>
        if v806 = v810 then
          f_L_law_1326 L xs (fun μ z0 => f_L_law_18 L xs n μ z0) μ_18 b3_18
        else
          some ((0 : Int32), μ_18)
      else if v471 = (28 : Int32) then
        (ldF xs L (b3_18 + (1 : Int32))).bind fun v814 =>
        (f_X6_count μ_18 v814).bind fun v815 =>
        (ldF xs L (b3_18 + (1 : Int32))).bind fun v817 =>
        (f_X7_count μ_18 v817).bind fun v818 =>
        if v815 = v818 then
          f_L_law_1326 L xs (fun μ z0 => f_L_law_18 L xs n μ z0) μ_18 b3_18
        else
          some ((0 : Int32), μ_18)
      else if v471 = (29 : Int32) then
        (ldF xs L (b3_18 + (1 : Int32))).bind fun v822 =>
        (ldF xs L (b3_18 + (2 : Int32))).bind fun v823 =>
        (ldF xs L (b3_18 + (3 : Int32))).bind fun v824 =>
        (f_X6_tape μ_18 v822 v823 v824).bind fun p828 =>
        (ldF xs L (b3_18 + (1 : Int32))).bind fun v829 =>
        (ldF xs L (b3_18 + (2 : Int32))).bind fun v830 =>
        (ldF xs L (b3_18 + (3 : Int32))).bind fun v831 =>
        (f_X7_tape p828.2 v829 v830 v831).bind fun p835 =>
        if p828.1 = p835.1 then
          f_L_law_1326 L xs (fun μ z0 => f_L_law_18 L xs n μ z0) p835.2 b3_18
        else
          some ((0 : Int32), p835.2)
      else if v471 = (30 : Int32) then
        (ldF xs L (b3_18 + (1 : Int32))).bind fun v838 =>
        (ldF xs L (b3_18 + (2 : Int32))).bind fun v839 =>
        (ldF xs L (b3_18 + (3 : Int32))).bind fun v840 =>
        (ldF xs L (b3_18 + (4 : Int32))).bind fun v841 =>
        (f_X6_item μ_18 v838 v839 ((v840.toInt64 <<< ((32 : Int32).toInt64 &&& 63)) ||| (v841.toInt64 &&& (4294967295 : Int64)))).bind fun p845 =>
        (ldF xs L (b3_18 + (1 : Int32))).bind fun v846 =>
        (ldF xs L (b3_18 + (2 : Int32))).bind fun v847 =>
        (ldF xs L (b3_18 + (3 : Int32))).bind fun v848 =>
        (ldF xs L (b3_18 + (4 : Int32))).bind fun v849 =>
        (f_X7_item p845.2 v846 v847 ((v848.toInt64 <<< ((32 : Int32).toInt64 &&& 63)) ||| (v849.toInt64 &&& (4294967295 : Int64)))).bind fun p853 =>
        if p845.1 = p853.1 then
          f_L_law_1326 L xs (fun μ z0 => f_L_law_18 L xs n μ z0) p853.2 b3_18
        else
          some ((0 : Int32), p853.2)
      else if v471 = (31 : Int32) then
        (ldF xs L (b3_18 + (1 : Int32))).bind fun v856 =>
        (ldF xs L (b3_18 + (2 : Int32))).bind fun v857 =>
        (f_X6_read μ_18 v856 v857).bind fun v858 =>
        (ldF xs L (b3_18 + (1 : Int32))).bind fun v860 =>
        (ldF xs L (b3_18 + (2 : Int32))).bind fun v861 =>
        (f_X7_read μ_18 v860 v861).bind fun v862 =>
        if (lg_cmp v858 v862) = (0 : Int32) then
          f_L_law_1326 L xs (fun μ z0 => f_L_law_18 L xs n μ z0) μ_18 b3_18
        else
          some ((0 : Int32), μ_18)
      else if v471 = (32 : Int32) then
        (ldF xs L (b3_18 + (1 : Int32))).bind fun v866 =>
        (ldF xs L (b3_18 + (2 : Int32))).bind fun v867 =>
        (ldF xs L (b3_18 + (3 : Int32))).bind fun v868 =>
        (ldF xs L (b3_18 + (4 : Int32))).bind fun v869 =>
        (ldF xs L (b3_18 + (5 : Int32))).bind fun v870 =>
        (f_X6_shift μ_18 v866 v867 v868 v869 v870).bind fun p874 =>
        (ldF xs L (b3_18 + (1 : Int32))).bind fun v875 =>
        (ldF xs L (b3_18 + (2 : Int32))).bind fun v876 =>
        (ldF xs L (b3_18 + (3 : Int32))).bind fun v877 =>
        (ldF xs L (b3_18 + (4 : Int32))).bind fun v878 =>
        (ldF xs L (b3_18 + (5 : Int32))).bind fun v879 =>
        (f_X7_shift p874.2 v875 v876 v877 v878 v879).bind fun p883 =>
        if p874.1 = p883.1 then
          f_L_law_1326 L xs (fun μ z0 => f_L_law_18 L xs n μ z0) p883.2 b3_18
        else
          some ((0 : Int32), p883.2)
      else 
        f_L_law_1326 L xs (fun μ z0 => f_L_law_18 L xs n μ z0) μ_18 b3_18
def f_L_law (L : Nat) (xs : Nat → Int32) (μ : Mem) : Option (Int32 × Mem) :=
  f_L_law_18 L xs FU μ (0 : Int32)
