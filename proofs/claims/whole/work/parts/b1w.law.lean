theorem ml_Law_25 : Cond.methodLink "GatePatchLaw" 25 yX11_begin ∈ tblG := mem_t 563 (by decide +kernel) rfl
theorem im_X11_begin : Cond.instanceMethod yX11_begin ∈ tblG := mem_t 564 (by decide +kernel) rfl
theorem se_X11_begin : Cond.selects "GatePatch" yX11_begin yX11_begin ∈ tblG := mem_t 565 (by decide +kernel) rfl
theorem cw_X11_begin : Cond.code yX11_begin cX11_begin 5 (Option.some Jvm.ClassFile.FieldType.int) ∈ tblG := mem_t 566 (by decide +kernel) rfl
theorem nd_X11_begin : yX11_begin.cls ≠ "java/lang/invoke/MethodHandle" ∧ yX11_begin.cls ≠ "java/lang/invoke/VarHandle" ∧ (parseMethodDescriptor yX11_begin.desc).map (fun d => d.parameters.length) = some 3 := by decide +kernel
theorem ml_Law_29 : Cond.methodLink "GatePatchLaw" 29 yX12_begin ∈ tblG := mem_t 1586 (by decide +kernel) rfl
theorem im_X12_begin : Cond.instanceMethod yX12_begin ∈ tblG := mem_t 1587 (by decide +kernel) rfl
theorem se_X12_begin : Cond.selects "GatePatchModel" yX12_begin yX12_begin ∈ tblG := mem_t 1588 (by decide +kernel) rfl
theorem cw_X12_begin : Cond.code yX12_begin cX12_begin 5 (Option.some Jvm.ClassFile.FieldType.int) ∈ tblG := mem_t 1589 (by decide +kernel) rfl
theorem nd_X12_begin : yX12_begin.cls ≠ "java/lang/invoke/MethodHandle" ∧ yX12_begin.cls ≠ "java/lang/invoke/VarHandle" ∧ (parseMethodDescriptor yX12_begin.desc).map (fun d => d.parameters.length) = some 3 := by decide +kernel
theorem ml_Law_30 : Cond.methodLink "GatePatchLaw" 30 yX11_gate ∈ tblG := mem_t 567 (by decide +kernel) rfl
theorem im_X11_gate : Cond.instanceMethod yX11_gate ∈ tblG := mem_t 568 (by decide +kernel) rfl
theorem se_X11_gate : Cond.selects "GatePatch" yX11_gate yX11_gate ∈ tblG := mem_t 569 (by decide +kernel) rfl
theorem cw_X11_gate : Cond.code yX11_gate cX11_gate 8 (Option.some Jvm.ClassFile.FieldType.int) ∈ tblG := mem_t 570 (by decide +kernel) rfl
theorem nd_X11_gate : yX11_gate.cls ≠ "java/lang/invoke/MethodHandle" ∧ yX11_gate.cls ≠ "java/lang/invoke/VarHandle" ∧ (parseMethodDescriptor yX11_gate.desc).map (fun d => d.parameters.length) = some 5 := by decide +kernel
theorem ml_Law_34 : Cond.methodLink "GatePatchLaw" 34 yX12_gate ∈ tblG := mem_t 1601 (by decide +kernel) rfl
theorem im_X12_gate : Cond.instanceMethod yX12_gate ∈ tblG := mem_t 1602 (by decide +kernel) rfl
theorem se_X12_gate : Cond.selects "GatePatchModel" yX12_gate yX12_gate ∈ tblG := mem_t 1603 (by decide +kernel) rfl
theorem cw_X12_gate : Cond.code yX12_gate cX12_gate 7 (Option.some Jvm.ClassFile.FieldType.int) ∈ tblG := mem_t 1604 (by decide +kernel) rfl
theorem nd_X12_gate : yX12_gate.cls ≠ "java/lang/invoke/MethodHandle" ∧ yX12_gate.cls ≠ "java/lang/invoke/VarHandle" ∧ (parseMethodDescriptor yX12_gate.desc).map (fun d => d.parameters.length) = some 5 := by decide +kernel
theorem ml_Law_35 : Cond.methodLink "GatePatchLaw" 35 yX11_rewire ∈ tblG := mem_t 600 (by decide +kernel) rfl
theorem im_X11_rewire : Cond.instanceMethod yX11_rewire ∈ tblG := mem_t 601 (by decide +kernel) rfl
theorem se_X11_rewire : Cond.selects "GatePatch" yX11_rewire yX11_rewire ∈ tblG := mem_t 602 (by decide +kernel) rfl
theorem cw_X11_rewire : Cond.code yX11_rewire cX11_rewire 8 (Option.some Jvm.ClassFile.FieldType.int) ∈ tblG := mem_t 603 (by decide +kernel) rfl
theorem nd_X11_rewire : yX11_rewire.cls ≠ "java/lang/invoke/MethodHandle" ∧ yX11_rewire.cls ≠ "java/lang/invoke/VarHandle" ∧ (parseMethodDescriptor yX11_rewire.desc).map (fun d => d.parameters.length) = some 4 := by decide +kernel
theorem ml_Law_39 : Cond.methodLink "GatePatchLaw" 39 yX12_rewire ∈ tblG := mem_t 1631 (by decide +kernel) rfl
theorem im_X12_rewire : Cond.instanceMethod yX12_rewire ∈ tblG := mem_t 1632 (by decide +kernel) rfl
theorem se_X12_rewire : Cond.selects "GatePatchModel" yX12_rewire yX12_rewire ∈ tblG := mem_t 1633 (by decide +kernel) rfl
theorem cw_X12_rewire : Cond.code yX12_rewire cX12_rewire 7 (Option.some Jvm.ClassFile.FieldType.int) ∈ tblG := mem_t 1634 (by decide +kernel) rfl
theorem nd_X12_rewire : yX12_rewire.cls ≠ "java/lang/invoke/MethodHandle" ∧ yX12_rewire.cls ≠ "java/lang/invoke/VarHandle" ∧ (parseMethodDescriptor yX12_rewire.desc).map (fun d => d.parameters.length) = some 4 := by decide +kernel
theorem ml_Law_40 : Cond.methodLink "GatePatchLaw" 40 yX11_out ∈ tblG := mem_t 657 (by decide +kernel) rfl
theorem im_X11_out : Cond.instanceMethod yX11_out ∈ tblG := mem_t 658 (by decide +kernel) rfl
theorem se_X11_out : Cond.selects "GatePatch" yX11_out yX11_out ∈ tblG := mem_t 659 (by decide +kernel) rfl
theorem cw_X11_out : Cond.code yX11_out cX11_out 5 (Option.some Jvm.ClassFile.FieldType.int) ∈ tblG := mem_t 660 (by decide +kernel) rfl
theorem nd_X11_out : yX11_out.cls ≠ "java/lang/invoke/MethodHandle" ∧ yX11_out.cls ≠ "java/lang/invoke/VarHandle" ∧ (parseMethodDescriptor yX11_out.desc).map (fun d => d.parameters.length) = some 3 := by decide +kernel
theorem ml_Law_43 : Cond.methodLink "GatePatchLaw" 43 yX12_out ∈ tblG := mem_t 1647 (by decide +kernel) rfl
theorem im_X12_out : Cond.instanceMethod yX12_out ∈ tblG := mem_t 1648 (by decide +kernel) rfl
theorem se_X12_out : Cond.selects "GatePatchModel" yX12_out yX12_out ∈ tblG := mem_t 1649 (by decide +kernel) rfl
theorem cw_X12_out : Cond.code yX12_out cX12_out 5 (Option.some Jvm.ClassFile.FieldType.int) ∈ tblG := mem_t 1650 (by decide +kernel) rfl
theorem nd_X12_out : yX12_out.cls ≠ "java/lang/invoke/MethodHandle" ∧ yX12_out.cls ≠ "java/lang/invoke/VarHandle" ∧ (parseMethodDescriptor yX12_out.desc).map (fun d => d.parameters.length) = some 3 := by decide +kernel
theorem ml_Law_44 : Cond.methodLink "GatePatchLaw" 44 yX11_next ∈ tblG := mem_t 665 (by decide +kernel) rfl
theorem im_X11_next : Cond.instanceMethod yX11_next ∈ tblG := mem_t 666 (by decide +kernel) rfl
theorem se_X11_next : Cond.selects "GatePatch" yX11_next yX11_next ∈ tblG := mem_t 667 (by decide +kernel) rfl
theorem cw_X11_next : Cond.code yX11_next cX11_next 5 (Option.some Jvm.ClassFile.FieldType.int) ∈ tblG := mem_t 668 (by decide +kernel) rfl
theorem nd_X11_next : yX11_next.cls ≠ "java/lang/invoke/MethodHandle" ∧ yX11_next.cls ≠ "java/lang/invoke/VarHandle" ∧ (parseMethodDescriptor yX11_next.desc).map (fun d => d.parameters.length) = some 3 := by decide +kernel
theorem ml_Law_47 : Cond.methodLink "GatePatchLaw" 47 yX12_next ∈ tblG := mem_t 1651 (by decide +kernel) rfl
theorem im_X12_next : Cond.instanceMethod yX12_next ∈ tblG := mem_t 1652 (by decide +kernel) rfl
theorem se_X12_next : Cond.selects "GatePatchModel" yX12_next yX12_next ∈ tblG := mem_t 1653 (by decide +kernel) rfl
theorem cw_X12_next : Cond.code yX12_next cX12_next 5 (Option.some Jvm.ClassFile.FieldType.int) ∈ tblG := mem_t 1654 (by decide +kernel) rfl
theorem nd_X12_next : yX12_next.cls ≠ "java/lang/invoke/MethodHandle" ∧ yX12_next.cls ≠ "java/lang/invoke/VarHandle" ∧ (parseMethodDescriptor yX12_next.desc).map (fun d => d.parameters.length) = some 3 := by decide +kernel
theorem ml_Law_48 : Cond.methodLink "GatePatchLaw" 48 yX11_free ∈ tblG := mem_t 669 (by decide +kernel) rfl
theorem im_X11_free : Cond.instanceMethod yX11_free ∈ tblG := mem_t 670 (by decide +kernel) rfl
theorem se_X11_free : Cond.selects "GatePatch" yX11_free yX11_free ∈ tblG := mem_t 671 (by decide +kernel) rfl
theorem cw_X11_free : Cond.code yX11_free cX11_free 2 (Option.some Jvm.ClassFile.FieldType.int) ∈ tblG := mem_t 672 (by decide +kernel) rfl
theorem nd_X11_free : yX11_free.cls ≠ "java/lang/invoke/MethodHandle" ∧ yX11_free.cls ≠ "java/lang/invoke/VarHandle" ∧ (parseMethodDescriptor yX11_free.desc).map (fun d => d.parameters.length) = some 1 := by decide +kernel
theorem ml_Law_52 : Cond.methodLink "GatePatchLaw" 52 yX12_free ∈ tblG := mem_t 1655 (by decide +kernel) rfl
theorem im_X12_free : Cond.instanceMethod yX12_free ∈ tblG := mem_t 1656 (by decide +kernel) rfl
theorem se_X12_free : Cond.selects "GatePatchModel" yX12_free yX12_free ∈ tblG := mem_t 1657 (by decide +kernel) rfl
theorem cw_X12_free : Cond.code yX12_free cX12_free 2 (Option.some Jvm.ClassFile.FieldType.int) ∈ tblG := mem_t 1658 (by decide +kernel) rfl
theorem nd_X12_free : yX12_free.cls ≠ "java/lang/invoke/MethodHandle" ∧ yX12_free.cls ≠ "java/lang/invoke/VarHandle" ∧ (parseMethodDescriptor yX12_free.desc).map (fun d => d.parameters.length) = some 1 := by decide +kernel
theorem ml_Law_53 : Cond.methodLink "GatePatchLaw" 53 yX11_value ∈ tblG := mem_t 685 (by decide +kernel) rfl
theorem im_X11_value : Cond.instanceMethod yX11_value ∈ tblG := mem_t 686 (by decide +kernel) rfl
theorem se_X11_value : Cond.selects "GatePatch" yX11_value yX11_value ∈ tblG := mem_t 687 (by decide +kernel) rfl
theorem cw_X11_value : Cond.code yX11_value cX11_value 5 (Option.some Jvm.ClassFile.FieldType.int) ∈ tblG := mem_t 688 (by decide +kernel) rfl
theorem nd_X11_value : yX11_value.cls ≠ "java/lang/invoke/MethodHandle" ∧ yX11_value.cls ≠ "java/lang/invoke/VarHandle" ∧ (parseMethodDescriptor yX11_value.desc).map (fun d => d.parameters.length) = some 3 := by decide +kernel
theorem ml_Law_56 : Cond.methodLink "GatePatchLaw" 56 yX12_value ∈ tblG := mem_t 1667 (by decide +kernel) rfl
theorem im_X12_value : Cond.instanceMethod yX12_value ∈ tblG := mem_t 1668 (by decide +kernel) rfl
theorem se_X12_value : Cond.selects "GatePatchModel" yX12_value yX12_value ∈ tblG := mem_t 1669 (by decide +kernel) rfl
theorem cw_X12_value : Cond.code yX12_value cX12_value 4 (Option.some Jvm.ClassFile.FieldType.int) ∈ tblG := mem_t 1670 (by decide +kernel) rfl
theorem nd_X12_value : yX12_value.cls ≠ "java/lang/invoke/MethodHandle" ∧ yX12_value.cls ≠ "java/lang/invoke/VarHandle" ∧ (parseMethodDescriptor yX12_value.desc).map (fun d => d.parameters.length) = some 3 := by decide +kernel
theorem ml_Law_62 : Cond.methodLink "GatePatchLaw" 62 yX12_row ∈ tblG := mem_t 1702 (by decide +kernel) rfl
theorem im_X12_row : Cond.instanceMethod yX12_row ∈ tblG := mem_t 1703 (by decide +kernel) rfl
theorem se_X12_row : Cond.selects "GatePatchModel" yX12_row yX12_row ∈ tblG := mem_t 1704 (by decide +kernel) rfl
theorem cw_X12_row : Cond.code yX12_row cX12_row 7 (Option.some Jvm.ClassFile.FieldType.long) ∈ tblG := mem_t 1705 (by decide +kernel) rfl
theorem nd_X12_row : yX12_row.cls ≠ "java/lang/invoke/MethodHandle" ∧ yX12_row.cls ≠ "java/lang/invoke/VarHandle" ∧ (parseMethodDescriptor yX12_row.desc).map (fun d => d.parameters.length) = some 3 := by decide +kernel
theorem ml_Law_63 : Cond.methodLink "GatePatchLaw" 63 yX12_thrown ∈ tblG := mem_t 1582 (by decide +kernel) rfl
theorem im_X12_thrown : Cond.instanceMethod yX12_thrown ∈ tblG := mem_t 1583 (by decide +kernel) rfl
theorem se_X12_thrown : Cond.selects "GatePatchModel" yX12_thrown yX12_thrown ∈ tblG := mem_t 1584 (by decide +kernel) rfl
theorem cw_X12_thrown : Cond.code yX12_thrown cX12_thrown 1 (Option.some Jvm.ClassFile.FieldType.int) ∈ tblG := mem_t 1585 (by decide +kernel) rfl
theorem nd_X12_thrown : yX12_thrown.cls ≠ "java/lang/invoke/MethodHandle" ∧ yX12_thrown.cls ≠ "java/lang/invoke/VarHandle" ∧ (parseMethodDescriptor yX12_thrown.desc).map (fun d => d.parameters.length) = some 0 := by decide +kernel
theorem ml_Law_67 : Cond.methodLink "GatePatchLaw" 67 yX11_hangs ∈ tblG := mem_t 689 (by decide +kernel) rfl
theorem im_X11_hangs : Cond.instanceMethod yX11_hangs ∈ tblG := mem_t 690 (by decide +kernel) rfl
theorem se_X11_hangs : Cond.selects "GatePatch" yX11_hangs yX11_hangs ∈ tblG := mem_t 691 (by decide +kernel) rfl
theorem cw_X11_hangs : Cond.code yX11_hangs cX11_hangs 5 (Option.some Jvm.ClassFile.FieldType.int) ∈ tblG := mem_t 692 (by decide +kernel) rfl
theorem nd_X11_hangs : yX11_hangs.cls ≠ "java/lang/invoke/MethodHandle" ∧ yX11_hangs.cls ≠ "java/lang/invoke/VarHandle" ∧ (parseMethodDescriptor yX11_hangs.desc).map (fun d => d.parameters.length) = some 3 := by decide +kernel
theorem ml_Law_70 : Cond.methodLink "GatePatchLaw" 70 yX12_hangs ∈ tblG := mem_t 1663 (by decide +kernel) rfl
theorem im_X12_hangs : Cond.instanceMethod yX12_hangs ∈ tblG := mem_t 1664 (by decide +kernel) rfl
theorem se_X12_hangs : Cond.selects "GatePatchModel" yX12_hangs yX12_hangs ∈ tblG := mem_t 1665 (by decide +kernel) rfl
theorem cw_X12_hangs : Cond.code yX12_hangs cX12_hangs 4 (Option.some Jvm.ClassFile.FieldType.int) ∈ tblG := mem_t 1666 (by decide +kernel) rfl
theorem nd_X12_hangs : yX12_hangs.cls ≠ "java/lang/invoke/MethodHandle" ∧ yX12_hangs.cls ≠ "java/lang/invoke/VarHandle" ∧ (parseMethodDescriptor yX12_hangs.desc).map (fun d => d.parameters.length) = some 3 := by decide +kernel
theorem ml_Law_71 : Cond.methodLink "GatePatchLaw" 71 yX11_differ ∈ tblG := mem_t 693 (by decide +kernel) rfl
theorem im_X11_differ : Cond.instanceMethod yX11_differ ∈ tblG := mem_t 694 (by decide +kernel) rfl
theorem se_X11_differ : Cond.selects "GatePatch" yX11_differ yX11_differ ∈ tblG := mem_t 695 (by decide +kernel) rfl
theorem cw_X11_differ : Cond.code yX11_differ cX11_differ 1 (Option.some Jvm.ClassFile.FieldType.int) ∈ tblG := mem_t 696 (by decide +kernel) rfl
theorem nd_X11_differ : yX11_differ.cls ≠ "java/lang/invoke/MethodHandle" ∧ yX11_differ.cls ≠ "java/lang/invoke/VarHandle" ∧ (parseMethodDescriptor yX11_differ.desc).map (fun d => d.parameters.length) = some 0 := by decide +kernel
theorem ml_Law_74 : Cond.methodLink "GatePatchLaw" 74 yX12_differ ∈ tblG := mem_t 1706 (by decide +kernel) rfl
theorem ml_Law_75 : Cond.methodLink "GatePatchLaw" 75 yX11_enough ∈ tblG := mem_t 722 (by decide +kernel) rfl
theorem im_X11_enough : Cond.instanceMethod yX11_enough ∈ tblG := mem_t 723 (by decide +kernel) rfl
theorem se_X11_enough : Cond.selects "GatePatch" yX11_enough yX11_enough ∈ tblG := mem_t 724 (by decide +kernel) rfl
theorem cw_X11_enough : Cond.code yX11_enough cX11_enough 4 (Option.some Jvm.ClassFile.FieldType.int) ∈ tblG := mem_t 725 (by decide +kernel) rfl
theorem nd_X11_enough : yX11_enough.cls ≠ "java/lang/invoke/MethodHandle" ∧ yX11_enough.cls ≠ "java/lang/invoke/VarHandle" ∧ (parseMethodDescriptor yX11_enough.desc).map (fun d => d.parameters.length) = some 3 := by decide +kernel
theorem ml_Law_78 : Cond.methodLink "GatePatchLaw" 78 yX12_enough ∈ tblG := mem_t 1722 (by decide +kernel) rfl
theorem im_X12_enough : Cond.instanceMethod yX12_enough ∈ tblG := mem_t 1723 (by decide +kernel) rfl
theorem se_X12_enough : Cond.selects "GatePatchModel" yX12_enough yX12_enough ∈ tblG := mem_t 1724 (by decide +kernel) rfl
theorem cw_X12_enough : Cond.code yX12_enough cX12_enough 5 (Option.some Jvm.ClassFile.FieldType.int) ∈ tblG := mem_t 1725 (by decide +kernel) rfl
theorem nd_X12_enough : yX12_enough.cls ≠ "java/lang/invoke/MethodHandle" ∧ yX12_enough.cls ≠ "java/lang/invoke/VarHandle" ∧ (parseMethodDescriptor yX12_enough.desc).map (fun d => d.parameters.length) = some 3 := by decide +kernel
theorem ml_Law_79 : Cond.methodLink "GatePatchLaw" 79 yX11_points ∈ tblG := mem_t 766 (by decide +kernel) rfl
theorem im_X11_points : Cond.instanceMethod yX11_points ∈ tblG := mem_t 767 (by decide +kernel) rfl
theorem se_X11_points : Cond.selects "GatePatch" yX11_points yX11_points ∈ tblG := mem_t 768 (by decide +kernel) rfl
theorem cw_X11_points : Cond.code yX11_points cX11_points 4 (Option.some Jvm.ClassFile.FieldType.int) ∈ tblG := mem_t 769 (by decide +kernel) rfl
theorem nd_X11_points : yX11_points.cls ≠ "java/lang/invoke/MethodHandle" ∧ yX11_points.cls ≠ "java/lang/invoke/VarHandle" ∧ (parseMethodDescriptor yX11_points.desc).map (fun d => d.parameters.length) = some 1 := by decide +kernel
theorem ml_Law_82 : Cond.methodLink "GatePatchLaw" 82 yX12_points ∈ tblG := mem_t 1750 (by decide +kernel) rfl
theorem im_X12_points : Cond.instanceMethod yX12_points ∈ tblG := mem_t 1751 (by decide +kernel) rfl
theorem se_X12_points : Cond.selects "GatePatchModel" yX12_points yX12_points ∈ tblG := mem_t 1752 (by decide +kernel) rfl
theorem cw_X12_points : Cond.code yX12_points cX12_points 6 (Option.some Jvm.ClassFile.FieldType.int) ∈ tblG := mem_t 1753 (by decide +kernel) rfl
theorem nd_X12_points : yX12_points.cls ≠ "java/lang/invoke/MethodHandle" ∧ yX12_points.cls ≠ "java/lang/invoke/VarHandle" ∧ (parseMethodDescriptor yX12_points.desc).map (fun d => d.parameters.length) = some 1 := by decide +kernel
theorem ml_Law_83 : Cond.methodLink "GatePatchLaw" 83 yX11_point ∈ tblG := mem_t 802 (by decide +kernel) rfl
theorem im_X11_point : Cond.instanceMethod yX11_point ∈ tblG := mem_t 803 (by decide +kernel) rfl
theorem se_X11_point : Cond.selects "GatePatch" yX11_point yX11_point ∈ tblG := mem_t 804 (by decide +kernel) rfl
theorem cw_X11_point : Cond.code yX11_point cX11_point 2 (Option.some Jvm.ClassFile.FieldType.int) ∈ tblG := mem_t 805 (by decide +kernel) rfl
theorem nd_X11_point : yX11_point.cls ≠ "java/lang/invoke/MethodHandle" ∧ yX11_point.cls ≠ "java/lang/invoke/VarHandle" ∧ (parseMethodDescriptor yX11_point.desc).map (fun d => d.parameters.length) = some 1 := by decide +kernel
theorem ml_Law_86 : Cond.methodLink "GatePatchLaw" 86 yX12_point ∈ tblG := mem_t 1759 (by decide +kernel) rfl
theorem im_X12_point : Cond.instanceMethod yX12_point ∈ tblG := mem_t 1760 (by decide +kernel) rfl
theorem se_X12_point : Cond.selects "GatePatchModel" yX12_point yX12_point ∈ tblG := mem_t 1761 (by decide +kernel) rfl
theorem cw_X12_point : Cond.code yX12_point cX12_point 2 (Option.some Jvm.ClassFile.FieldType.int) ∈ tblG := mem_t 1762 (by decide +kernel) rfl
theorem nd_X12_point : yX12_point.cls ≠ "java/lang/invoke/MethodHandle" ∧ yX12_point.cls ≠ "java/lang/invoke/VarHandle" ∧ (parseMethodDescriptor yX12_point.desc).map (fun d => d.parameters.length) = some 1 := by decide +kernel
theorem ml_Law_87 : Cond.methodLink "GatePatchLaw" 87 yX11_mend ∈ tblG := mem_t 806 (by decide +kernel) rfl
theorem im_X11_mend : Cond.instanceMethod yX11_mend ∈ tblG := mem_t 807 (by decide +kernel) rfl
theorem se_X11_mend : Cond.selects "GatePatch" yX11_mend yX11_mend ∈ tblG := mem_t 808 (by decide +kernel) rfl
theorem cw_X11_mend : Cond.code yX11_mend cX11_mend 5 (Option.some Jvm.ClassFile.FieldType.int) ∈ tblG := mem_t 809 (by decide +kernel) rfl
theorem nd_X11_mend : yX11_mend.cls ≠ "java/lang/invoke/MethodHandle" ∧ yX11_mend.cls ≠ "java/lang/invoke/VarHandle" ∧ (parseMethodDescriptor yX11_mend.desc).map (fun d => d.parameters.length) = some 4 := by decide +kernel
theorem ml_Law_90 : Cond.methodLink "GatePatchLaw" 90 yX12_mend ∈ tblG := mem_t 1763 (by decide +kernel) rfl
theorem im_X12_mend : Cond.instanceMethod yX12_mend ∈ tblG := mem_t 1764 (by decide +kernel) rfl
theorem se_X12_mend : Cond.selects "GatePatchModel" yX12_mend yX12_mend ∈ tblG := mem_t 1765 (by decide +kernel) rfl
theorem cw_X12_mend : Cond.code yX12_mend cX12_mend 7 (Option.some Jvm.ClassFile.FieldType.int) ∈ tblG := mem_t 1766 (by decide +kernel) rfl
theorem nd_X12_mend : yX12_mend.cls ≠ "java/lang/invoke/MethodHandle" ∧ yX12_mend.cls ≠ "java/lang/invoke/VarHandle" ∧ (parseMethodDescriptor yX12_mend.desc).map (fun d => d.parameters.length) = some 4 := by decide +kernel
theorem ml_Law_91 : Cond.methodLink "GatePatchLaw" 91 yX11_witness ∈ tblG := mem_t 814 (by decide +kernel) rfl
theorem im_X11_witness : Cond.instanceMethod yX11_witness ∈ tblG := mem_t 815 (by decide +kernel) rfl
theorem se_X11_witness : Cond.selects "GatePatch" yX11_witness yX11_witness ∈ tblG := mem_t 816 (by decide +kernel) rfl
theorem cw_X11_witness : Cond.code yX11_witness cX11_witness 5 (Option.some Jvm.ClassFile.FieldType.int) ∈ tblG := mem_t 817 (by decide +kernel) rfl
theorem nd_X11_witness : yX11_witness.cls ≠ "java/lang/invoke/MethodHandle" ∧ yX11_witness.cls ≠ "java/lang/invoke/VarHandle" ∧ (parseMethodDescriptor yX11_witness.desc).map (fun d => d.parameters.length) = some 4 := by decide +kernel
theorem ml_Law_94 : Cond.methodLink "GatePatchLaw" 94 yX12_witness ∈ tblG := mem_t 1767 (by decide +kernel) rfl
theorem im_X12_witness : Cond.instanceMethod yX12_witness ∈ tblG := mem_t 1768 (by decide +kernel) rfl
theorem se_X12_witness : Cond.selects "GatePatchModel" yX12_witness yX12_witness ∈ tblG := mem_t 1769 (by decide +kernel) rfl
theorem cw_X12_witness : Cond.code yX12_witness cX12_witness 7 (Option.some Jvm.ClassFile.FieldType.int) ∈ tblG := mem_t 1770 (by decide +kernel) rfl
theorem nd_X12_witness : yX12_witness.cls ≠ "java/lang/invoke/MethodHandle" ∧ yX12_witness.cls ≠ "java/lang/invoke/VarHandle" ∧ (parseMethodDescriptor yX12_witness.desc).map (fun d => d.parameters.length) = some 4 := by decide +kernel
theorem ml_Law_95 : Cond.methodLink "GatePatchLaw" 95 yX11_judge ∈ tblG := mem_t 832 (by decide +kernel) rfl
theorem im_X11_judge : Cond.instanceMethod yX11_judge ∈ tblG := mem_t 833 (by decide +kernel) rfl
theorem se_X11_judge : Cond.selects "GatePatch" yX11_judge yX11_judge ∈ tblG := mem_t 834 (by decide +kernel) rfl
theorem cw_X11_judge : Cond.code yX11_judge cX11_judge 6 (Option.some Jvm.ClassFile.FieldType.int) ∈ tblG := mem_t 835 (by decide +kernel) rfl
theorem nd_X11_judge : yX11_judge.cls ≠ "java/lang/invoke/MethodHandle" ∧ yX11_judge.cls ≠ "java/lang/invoke/VarHandle" ∧ (parseMethodDescriptor yX11_judge.desc).map (fun d => d.parameters.length) = some 4 := by decide +kernel
theorem ml_Law_98 : Cond.methodLink "GatePatchLaw" 98 yX12_judge ∈ tblG := mem_t 1774 (by decide +kernel) rfl
theorem im_X12_judge : Cond.instanceMethod yX12_judge ∈ tblG := mem_t 1775 (by decide +kernel) rfl
theorem se_X12_judge : Cond.selects "GatePatchModel" yX12_judge yX12_judge ∈ tblG := mem_t 1776 (by decide +kernel) rfl
theorem cw_X12_judge : Cond.code yX12_judge cX12_judge 9 (Option.some Jvm.ClassFile.FieldType.int) ∈ tblG := mem_t 1777 (by decide +kernel) rfl
theorem nd_X12_judge : yX12_judge.cls ≠ "java/lang/invoke/MethodHandle" ∧ yX12_judge.cls ≠ "java/lang/invoke/VarHandle" ∧ (parseMethodDescriptor yX12_judge.desc).map (fun d => d.parameters.length) = some 4 := by decide +kernel
theorem ml_Law_99 : Cond.methodLink "GatePatchLaw" 99 yX11_patch ∈ tblG := mem_t 852 (by decide +kernel) rfl
theorem im_X11_patch : Cond.instanceMethod yX11_patch ∈ tblG := mem_t 853 (by decide +kernel) rfl
theorem se_X11_patch : Cond.selects "GatePatch" yX11_patch yX11_patch ∈ tblG := mem_t 854 (by decide +kernel) rfl
theorem cw_X11_patch : Cond.code yX11_patch cX11_patch 6 (Option.some Jvm.ClassFile.FieldType.int) ∈ tblG := mem_t 855 (by decide +kernel) rfl
theorem nd_X11_patch : yX11_patch.cls ≠ "java/lang/invoke/MethodHandle" ∧ yX11_patch.cls ≠ "java/lang/invoke/VarHandle" ∧ (parseMethodDescriptor yX11_patch.desc).map (fun d => d.parameters.length) = some 5 := by decide +kernel
theorem ml_Law_102 : Cond.methodLink "GatePatchLaw" 102 yX12_patch ∈ tblG := mem_t 1807 (by decide +kernel) rfl
theorem im_X12_patch : Cond.instanceMethod yX12_patch ∈ tblG := mem_t 1808 (by decide +kernel) rfl
theorem se_X12_patch : Cond.selects "GatePatchModel" yX12_patch yX12_patch ∈ tblG := mem_t 1809 (by decide +kernel) rfl
theorem cw_X12_patch : Cond.code yX12_patch cX12_patch 10 (Option.some Jvm.ClassFile.FieldType.int) ∈ tblG := mem_t 1810 (by decide +kernel) rfl
theorem nd_X12_patch : yX12_patch.cls ≠ "java/lang/invoke/MethodHandle" ∧ yX12_patch.cls ≠ "java/lang/invoke/VarHandle" ∧ (parseMethodDescriptor yX12_patch.desc).map (fun d => d.parameters.length) = some 5 := by decide +kernel
theorem ml_Law_103 : Cond.methodLink "GatePatchLaw" 103 yX11_clash ∈ tblG := mem_t 938 (by decide +kernel) rfl
theorem im_X11_clash : Cond.instanceMethod yX11_clash ∈ tblG := mem_t 939 (by decide +kernel) rfl
theorem se_X11_clash : Cond.selects "GatePatch" yX11_clash yX11_clash ∈ tblG := mem_t 940 (by decide +kernel) rfl
theorem cw_X11_clash : Cond.code yX11_clash cX11_clash 2 (Option.some Jvm.ClassFile.FieldType.int) ∈ tblG := mem_t 941 (by decide +kernel) rfl
theorem nd_X11_clash : yX11_clash.cls ≠ "java/lang/invoke/MethodHandle" ∧ yX11_clash.cls ≠ "java/lang/invoke/VarHandle" ∧ (parseMethodDescriptor yX11_clash.desc).map (fun d => d.parameters.length) = some 1 := by decide +kernel
theorem ml_Law_106 : Cond.methodLink "GatePatchLaw" 106 yX12_clash ∈ tblG := mem_t 1843 (by decide +kernel) rfl
theorem im_X12_clash : Cond.instanceMethod yX12_clash ∈ tblG := mem_t 1844 (by decide +kernel) rfl
theorem se_X12_clash : Cond.selects "GatePatchModel" yX12_clash yX12_clash ∈ tblG := mem_t 1845 (by decide +kernel) rfl
theorem cw_X12_clash : Cond.code yX12_clash cX12_clash 2 (Option.some Jvm.ClassFile.FieldType.int) ∈ tblG := mem_t 1846 (by decide +kernel) rfl
theorem nd_X12_clash : yX12_clash.cls ≠ "java/lang/invoke/MethodHandle" ∧ yX12_clash.cls ≠ "java/lang/invoke/VarHandle" ∧ (parseMethodDescriptor yX12_clash.desc).map (fun d => d.parameters.length) = some 1 := by decide +kernel
theorem ml_Law_107 : Cond.methodLink "GatePatchLaw" 107 yX11_mark ∈ tblG := mem_t 942 (by decide +kernel) rfl
theorem im_X11_mark : Cond.instanceMethod yX11_mark ∈ tblG := mem_t 943 (by decide +kernel) rfl
theorem se_X11_mark : Cond.selects "GatePatch" yX11_mark yX11_mark ∈ tblG := mem_t 944 (by decide +kernel) rfl
theorem cw_X11_mark : Cond.code yX11_mark cX11_mark 3 (Option.some Jvm.ClassFile.FieldType.int) ∈ tblG := mem_t 945 (by decide +kernel) rfl
theorem nd_X11_mark : yX11_mark.cls ≠ "java/lang/invoke/MethodHandle" ∧ yX11_mark.cls ≠ "java/lang/invoke/VarHandle" ∧ (parseMethodDescriptor yX11_mark.desc).map (fun d => d.parameters.length) = some 2 := by decide +kernel
theorem ml_Law_111 : Cond.methodLink "GatePatchLaw" 111 yX12_mark ∈ tblG := mem_t 1847 (by decide +kernel) rfl
theorem im_X12_mark : Cond.instanceMethod yX12_mark ∈ tblG := mem_t 1848 (by decide +kernel) rfl
theorem se_X12_mark : Cond.selects "GatePatchModel" yX12_mark yX12_mark ∈ tblG := mem_t 1849 (by decide +kernel) rfl
theorem cw_X12_mark : Cond.code yX12_mark cX12_mark 3 (Option.some Jvm.ClassFile.FieldType.int) ∈ tblG := mem_t 1850 (by decide +kernel) rfl
theorem nd_X12_mark : yX12_mark.cls ≠ "java/lang/invoke/MethodHandle" ∧ yX12_mark.cls ≠ "java/lang/invoke/VarHandle" ∧ (parseMethodDescriptor yX12_mark.desc).map (fun d => d.parameters.length) = some 2 := by decide +kernel
theorem ml_Law_112 : Cond.methodLink "GatePatchLaw" 112 yX11_best ∈ tblG := mem_t 950 (by decide +kernel) rfl
theorem im_X11_best : Cond.instanceMethod yX11_best ∈ tblG := mem_t 951 (by decide +kernel) rfl
theorem se_X11_best : Cond.selects "GatePatch" yX11_best yX11_best ∈ tblG := mem_t 952 (by decide +kernel) rfl
theorem cw_X11_best : Cond.code yX11_best cX11_best 2 (Option.some Jvm.ClassFile.FieldType.int) ∈ tblG := mem_t 953 (by decide +kernel) rfl
theorem nd_X11_best : yX11_best.cls ≠ "java/lang/invoke/MethodHandle" ∧ yX11_best.cls ≠ "java/lang/invoke/VarHandle" ∧ (parseMethodDescriptor yX11_best.desc).map (fun d => d.parameters.length) = some 1 := by decide +kernel
theorem ml_Law_115 : Cond.methodLink "GatePatchLaw" 115 yX12_best ∈ tblG := mem_t 1855 (by decide +kernel) rfl
theorem im_X12_best : Cond.instanceMethod yX12_best ∈ tblG := mem_t 1856 (by decide +kernel) rfl
theorem se_X12_best : Cond.selects "GatePatchModel" yX12_best yX12_best ∈ tblG := mem_t 1857 (by decide +kernel) rfl
theorem cw_X12_best : Cond.code yX12_best cX12_best 6 (Option.some Jvm.ClassFile.FieldType.int) ∈ tblG := mem_t 1858 (by decide +kernel) rfl
theorem nd_X12_best : yX12_best.cls ≠ "java/lang/invoke/MethodHandle" ∧ yX12_best.cls ≠ "java/lang/invoke/VarHandle" ∧ (parseMethodDescriptor yX12_best.desc).map (fun d => d.parameters.length) = some 1 := by decide +kernel
theorem ml_Law_116 : Cond.methodLink "GatePatchLaw" 116 yX11_patched ∈ tblG := mem_t 979 (by decide +kernel) rfl
theorem im_X11_patched : Cond.instanceMethod yX11_patched ∈ tblG := mem_t 980 (by decide +kernel) rfl
theorem se_X11_patched : Cond.selects "GatePatch" yX11_patched yX11_patched ∈ tblG := mem_t 981 (by decide +kernel) rfl
theorem cw_X11_patched : Cond.code yX11_patched cX11_patched 2 (Option.some Jvm.ClassFile.FieldType.int) ∈ tblG := mem_t 982 (by decide +kernel) rfl
theorem nd_X11_patched : yX11_patched.cls ≠ "java/lang/invoke/MethodHandle" ∧ yX11_patched.cls ≠ "java/lang/invoke/VarHandle" ∧ (parseMethodDescriptor yX11_patched.desc).map (fun d => d.parameters.length) = some 1 := by decide +kernel
theorem ml_Law_119 : Cond.methodLink "GatePatchLaw" 119 yX12_patched ∈ tblG := mem_t 1863 (by decide +kernel) rfl
theorem im_X12_patched : Cond.instanceMethod yX12_patched ∈ tblG := mem_t 1864 (by decide +kernel) rfl
theorem se_X12_patched : Cond.selects "GatePatchModel" yX12_patched yX12_patched ∈ tblG := mem_t 1865 (by decide +kernel) rfl
theorem cw_X12_patched : Cond.code yX12_patched cX12_patched 2 (Option.some Jvm.ClassFile.FieldType.int) ∈ tblG := mem_t 1866 (by decide +kernel) rfl
theorem nd_X12_patched : yX12_patched.cls ≠ "java/lang/invoke/MethodHandle" ∧ yX12_patched.cls ≠ "java/lang/invoke/VarHandle" ∧ (parseMethodDescriptor yX12_patched.desc).map (fun d => d.parameters.length) = some 1 := by decide +kernel
theorem ml_Law_120 : Cond.methodLink "GatePatchLaw" 120 yX11_function ∈ tblG := mem_t 983 (by decide +kernel) rfl
theorem im_X11_function : Cond.instanceMethod yX11_function ∈ tblG := mem_t 984 (by decide +kernel) rfl
theorem se_X11_function : Cond.selects "GatePatch" yX11_function yX11_function ∈ tblG := mem_t 985 (by decide +kernel) rfl
theorem cw_X11_function : Cond.code yX11_function cX11_function 2 (Option.some Jvm.ClassFile.FieldType.int) ∈ tblG := mem_t 986 (by decide +kernel) rfl
theorem nd_X11_function : yX11_function.cls ≠ "java/lang/invoke/MethodHandle" ∧ yX11_function.cls ≠ "java/lang/invoke/VarHandle" ∧ (parseMethodDescriptor yX11_function.desc).map (fun d => d.parameters.length) = some 1 := by decide +kernel
theorem ml_Law_123 : Cond.methodLink "GatePatchLaw" 123 yX12_function ∈ tblG := mem_t 1867 (by decide +kernel) rfl
theorem im_X12_function : Cond.instanceMethod yX12_function ∈ tblG := mem_t 1868 (by decide +kernel) rfl
theorem se_X12_function : Cond.selects "GatePatchModel" yX12_function yX12_function ∈ tblG := mem_t 1869 (by decide +kernel) rfl
theorem cw_X12_function : Cond.code yX12_function cX12_function 2 (Option.some Jvm.ClassFile.FieldType.int) ∈ tblG := mem_t 1870 (by decide +kernel) rfl
theorem nd_X12_function : yX12_function.cls ≠ "java/lang/invoke/MethodHandle" ∧ yX12_function.cls ≠ "java/lang/invoke/VarHandle" ∧ (parseMethodDescriptor yX12_function.desc).map (fun d => d.parameters.length) = some 1 := by decide +kernel
theorem ml_Law_124 : Cond.methodLink "GatePatchLaw" 124 yX11_told ∈ tblG := mem_t 987 (by decide +kernel) rfl
theorem im_X11_told : Cond.instanceMethod yX11_told ∈ tblG := mem_t 988 (by decide +kernel) rfl
theorem se_X11_told : Cond.selects "GatePatch" yX11_told yX11_told ∈ tblG := mem_t 989 (by decide +kernel) rfl
theorem cw_X11_told : Cond.code yX11_told cX11_told 2 (Option.some Jvm.ClassFile.FieldType.int) ∈ tblG := mem_t 990 (by decide +kernel) rfl
theorem nd_X11_told : yX11_told.cls ≠ "java/lang/invoke/MethodHandle" ∧ yX11_told.cls ≠ "java/lang/invoke/VarHandle" ∧ (parseMethodDescriptor yX11_told.desc).map (fun d => d.parameters.length) = some 1 := by decide +kernel
theorem ml_Law_127 : Cond.methodLink "GatePatchLaw" 127 yX12_told ∈ tblG := mem_t 1871 (by decide +kernel) rfl
theorem im_X12_told : Cond.instanceMethod yX12_told ∈ tblG := mem_t 1872 (by decide +kernel) rfl
theorem se_X12_told : Cond.selects "GatePatchModel" yX12_told yX12_told ∈ tblG := mem_t 1873 (by decide +kernel) rfl
theorem cw_X12_told : Cond.code yX12_told cX12_told 2 (Option.some Jvm.ClassFile.FieldType.int) ∈ tblG := mem_t 1874 (by decide +kernel) rfl
theorem nd_X12_told : yX12_told.cls ≠ "java/lang/invoke/MethodHandle" ∧ yX12_told.cls ≠ "java/lang/invoke/VarHandle" ∧ (parseMethodDescriptor yX12_told.desc).map (fun d => d.parameters.length) = some 1 := by decide +kernel
theorem ml_Law_128 : Cond.methodLink "GatePatchLaw" 128 yX11_node ∈ tblG := mem_t 991 (by decide +kernel) rfl
theorem im_X11_node : Cond.instanceMethod yX11_node ∈ tblG := mem_t 992 (by decide +kernel) rfl
theorem se_X11_node : Cond.selects "GatePatch" yX11_node yX11_node ∈ tblG := mem_t 993 (by decide +kernel) rfl
theorem cw_X11_node : Cond.code yX11_node cX11_node 3 (Option.some Jvm.ClassFile.FieldType.int) ∈ tblG := mem_t 994 (by decide +kernel) rfl
theorem nd_X11_node : yX11_node.cls ≠ "java/lang/invoke/MethodHandle" ∧ yX11_node.cls ≠ "java/lang/invoke/VarHandle" ∧ (parseMethodDescriptor yX11_node.desc).map (fun d => d.parameters.length) = some 2 := by decide +kernel
theorem ml_Law_131 : Cond.methodLink "GatePatchLaw" 131 yX12_node ∈ tblG := mem_t 1875 (by decide +kernel) rfl
theorem im_X12_node : Cond.instanceMethod yX12_node ∈ tblG := mem_t 1876 (by decide +kernel) rfl
theorem se_X12_node : Cond.selects "GatePatchModel" yX12_node yX12_node ∈ tblG := mem_t 1877 (by decide +kernel) rfl
theorem cw_X12_node : Cond.code yX12_node cX12_node 3 (Option.some Jvm.ClassFile.FieldType.int) ∈ tblG := mem_t 1878 (by decide +kernel) rfl
theorem nd_X12_node : yX12_node.cls ≠ "java/lang/invoke/MethodHandle" ∧ yX12_node.cls ≠ "java/lang/invoke/VarHandle" ∧ (parseMethodDescriptor yX12_node.desc).map (fun d => d.parameters.length) = some 2 := by decide +kernel
theorem ml_Law_132 : Cond.methodLink "GatePatchLaw" 132 yX11_cost ∈ tblG := mem_t 995 (by decide +kernel) rfl
theorem im_X11_cost : Cond.instanceMethod yX11_cost ∈ tblG := mem_t 996 (by decide +kernel) rfl
theorem se_X11_cost : Cond.selects "GatePatch" yX11_cost yX11_cost ∈ tblG := mem_t 997 (by decide +kernel) rfl
theorem cw_X11_cost : Cond.code yX11_cost cX11_cost 3 (Option.some Jvm.ClassFile.FieldType.int) ∈ tblG := mem_t 998 (by decide +kernel) rfl
theorem nd_X11_cost : yX11_cost.cls ≠ "java/lang/invoke/MethodHandle" ∧ yX11_cost.cls ≠ "java/lang/invoke/VarHandle" ∧ (parseMethodDescriptor yX11_cost.desc).map (fun d => d.parameters.length) = some 2 := by decide +kernel
theorem ml_Law_135 : Cond.methodLink "GatePatchLaw" 135 yX12_cost ∈ tblG := mem_t 1782 (by decide +kernel) rfl
theorem im_X12_cost : Cond.instanceMethod yX12_cost ∈ tblG := mem_t 1783 (by decide +kernel) rfl
theorem se_X12_cost : Cond.selects "GatePatchModel" yX12_cost yX12_cost ∈ tblG := mem_t 1784 (by decide +kernel) rfl
theorem cw_X12_cost : Cond.code yX12_cost cX12_cost 3 (Option.some Jvm.ClassFile.FieldType.int) ∈ tblG := mem_t 1785 (by decide +kernel) rfl
theorem nd_X12_cost : yX12_cost.cls ≠ "java/lang/invoke/MethodHandle" ∧ yX12_cost.cls ≠ "java/lang/invoke/VarHandle" ∧ (parseMethodDescriptor yX12_cost.desc).map (fun d => d.parameters.length) = some 2 := by decide +kernel
theorem ml_Law_136 : Cond.methodLink "GatePatchLaw" 136 yX11_site ∈ tblG := mem_t 1001 (by decide +kernel) rfl
theorem im_X11_site : Cond.instanceMethod yX11_site ∈ tblG := mem_t 1002 (by decide +kernel) rfl
theorem se_X11_site : Cond.selects "GatePatch" yX11_site yX11_site ∈ tblG := mem_t 1003 (by decide +kernel) rfl
theorem cw_X11_site : Cond.code yX11_site cX11_site 5 (Option.some Jvm.ClassFile.FieldType.int) ∈ tblG := mem_t 1004 (by decide +kernel) rfl
theorem nd_X11_site : yX11_site.cls ≠ "java/lang/invoke/MethodHandle" ∧ yX11_site.cls ≠ "java/lang/invoke/VarHandle" ∧ (parseMethodDescriptor yX11_site.desc).map (fun d => d.parameters.length) = some 3 := by decide +kernel
theorem ml_Law_139 : Cond.methodLink "GatePatchLaw" 139 yX12_site ∈ tblG := mem_t 1879 (by decide +kernel) rfl
theorem im_X12_site : Cond.instanceMethod yX12_site ∈ tblG := mem_t 1880 (by decide +kernel) rfl
theorem se_X12_site : Cond.selects "GatePatchModel" yX12_site yX12_site ∈ tblG := mem_t 1881 (by decide +kernel) rfl
theorem cw_X12_site : Cond.code yX12_site cX12_site 5 (Option.some Jvm.ClassFile.FieldType.int) ∈ tblG := mem_t 1882 (by decide +kernel) rfl
theorem nd_X12_site : yX12_site.cls ≠ "java/lang/invoke/MethodHandle" ∧ yX12_site.cls ≠ "java/lang/invoke/VarHandle" ∧ (parseMethodDescriptor yX12_site.desc).map (fun d => d.parameters.length) = some 3 := by decide +kernel
theorem ml_Law_140 : Cond.methodLink "GatePatchLaw" 140 yX11_spare ∈ tblG := mem_t 1008 (by decide +kernel) rfl
theorem im_X11_spare : Cond.instanceMethod yX11_spare ∈ tblG := mem_t 1009 (by decide +kernel) rfl
theorem se_X11_spare : Cond.selects "GatePatch" yX11_spare yX11_spare ∈ tblG := mem_t 1010 (by decide +kernel) rfl
theorem cw_X11_spare : Cond.code yX11_spare cX11_spare 5 (Option.some Jvm.ClassFile.FieldType.int) ∈ tblG := mem_t 1011 (by decide +kernel) rfl
theorem nd_X11_spare : yX11_spare.cls ≠ "java/lang/invoke/MethodHandle" ∧ yX11_spare.cls ≠ "java/lang/invoke/VarHandle" ∧ (parseMethodDescriptor yX11_spare.desc).map (fun d => d.parameters.length) = some 3 := by decide +kernel
theorem ml_Law_143 : Cond.methodLink "GatePatchLaw" 143 yX12_spare ∈ tblG := mem_t 1886 (by decide +kernel) rfl
theorem im_X12_spare : Cond.instanceMethod yX12_spare ∈ tblG := mem_t 1887 (by decide +kernel) rfl
theorem se_X12_spare : Cond.selects "GatePatchModel" yX12_spare yX12_spare ∈ tblG := mem_t 1888 (by decide +kernel) rfl
theorem cw_X12_spare : Cond.code yX12_spare cX12_spare 4 (Option.some Jvm.ClassFile.FieldType.int) ∈ tblG := mem_t 1889 (by decide +kernel) rfl
theorem nd_X12_spare : yX12_spare.cls ≠ "java/lang/invoke/MethodHandle" ∧ yX12_spare.cls ≠ "java/lang/invoke/VarHandle" ∧ (parseMethodDescriptor yX12_spare.desc).map (fun d => d.parameters.length) = some 3 := by decide +kernel
theorem ml_Law_144 : Cond.methodLink "GatePatchLaw" 144 yX11_place ∈ tblG := mem_t 1016 (by decide +kernel) rfl
theorem im_X11_place : Cond.instanceMethod yX11_place ∈ tblG := mem_t 1017 (by decide +kernel) rfl
theorem se_X11_place : Cond.selects "GatePatch" yX11_place yX11_place ∈ tblG := mem_t 1018 (by decide +kernel) rfl
theorem cw_X11_place : Cond.code yX11_place cX11_place 1 (Option.some Jvm.ClassFile.FieldType.int) ∈ tblG := mem_t 1019 (by decide +kernel) rfl
theorem nd_X11_place : yX11_place.cls ≠ "java/lang/invoke/MethodHandle" ∧ yX11_place.cls ≠ "java/lang/invoke/VarHandle" ∧ (parseMethodDescriptor yX11_place.desc).map (fun d => d.parameters.length) = some 0 := by decide +kernel
theorem ml_Law_147 : Cond.methodLink "GatePatchLaw" 147 yX12_place ∈ tblG := mem_t 1890 (by decide +kernel) rfl
theorem im_X12_place : Cond.instanceMethod yX12_place ∈ tblG := mem_t 1891 (by decide +kernel) rfl
theorem se_X12_place : Cond.selects "GatePatchModel" yX12_place yX12_place ∈ tblG := mem_t 1892 (by decide +kernel) rfl
theorem cw_X12_place : Cond.code yX12_place cX12_place 5 (Option.some Jvm.ClassFile.FieldType.int) ∈ tblG := mem_t 1893 (by decide +kernel) rfl
theorem nd_X12_place : yX12_place.cls ≠ "java/lang/invoke/MethodHandle" ∧ yX12_place.cls ≠ "java/lang/invoke/VarHandle" ∧ (parseMethodDescriptor yX12_place.desc).map (fun d => d.parameters.length) = some 0 := by decide +kernel
theorem ml_Law_148 : Cond.methodLink "GatePatchLaw" 148 yX11_used ∈ tblG := mem_t 1056 (by decide +kernel) rfl
theorem im_X11_used : Cond.instanceMethod yX11_used ∈ tblG := mem_t 1057 (by decide +kernel) rfl
theorem se_X11_used : Cond.selects "GatePatch" yX11_used yX11_used ∈ tblG := mem_t 1058 (by decide +kernel) rfl
theorem cw_X11_used : Cond.code yX11_used cX11_used 2 (Option.some Jvm.ClassFile.FieldType.int) ∈ tblG := mem_t 1059 (by decide +kernel) rfl
theorem nd_X11_used : yX11_used.cls ≠ "java/lang/invoke/MethodHandle" ∧ yX11_used.cls ≠ "java/lang/invoke/VarHandle" ∧ (parseMethodDescriptor yX11_used.desc).map (fun d => d.parameters.length) = some 1 := by decide +kernel
theorem ml_Law_151 : Cond.methodLink "GatePatchLaw" 151 yX12_used ∈ tblG := mem_t 1912 (by decide +kernel) rfl
theorem im_X12_used : Cond.instanceMethod yX12_used ∈ tblG := mem_t 1913 (by decide +kernel) rfl
theorem se_X12_used : Cond.selects "GatePatchModel" yX12_used yX12_used ∈ tblG := mem_t 1914 (by decide +kernel) rfl
theorem cw_X12_used : Cond.code yX12_used cX12_used 2 (Option.some Jvm.ClassFile.FieldType.int) ∈ tblG := mem_t 1915 (by decide +kernel) rfl
theorem nd_X12_used : yX12_used.cls ≠ "java/lang/invoke/MethodHandle" ∧ yX12_used.cls ≠ "java/lang/invoke/VarHandle" ∧ (parseMethodDescriptor yX12_used.desc).map (fun d => d.parameters.length) = some 1 := by decide +kernel
theorem ml_Law_152 : Cond.methodLink "GatePatchLaw" 152 yX11_delay ∈ tblG := mem_t 1060 (by decide +kernel) rfl
theorem im_X11_delay : Cond.instanceMethod yX11_delay ∈ tblG := mem_t 1061 (by decide +kernel) rfl
theorem se_X11_delay : Cond.selects "GatePatch" yX11_delay yX11_delay ∈ tblG := mem_t 1062 (by decide +kernel) rfl
theorem cw_X11_delay : Cond.code yX11_delay cX11_delay 4 (Option.some Jvm.ClassFile.FieldType.int) ∈ tblG := mem_t 1063 (by decide +kernel) rfl
theorem nd_X11_delay : yX11_delay.cls ≠ "java/lang/invoke/MethodHandle" ∧ yX11_delay.cls ≠ "java/lang/invoke/VarHandle" ∧ (parseMethodDescriptor yX11_delay.desc).map (fun d => d.parameters.length) = some 2 := by decide +kernel
theorem ml_Law_155 : Cond.methodLink "GatePatchLaw" 155 yX12_delay ∈ tblG := mem_t 1916 (by decide +kernel) rfl
theorem im_X12_delay : Cond.instanceMethod yX12_delay ∈ tblG := mem_t 1917 (by decide +kernel) rfl
theorem se_X12_delay : Cond.selects "GatePatchModel" yX12_delay yX12_delay ∈ tblG := mem_t 1918 (by decide +kernel) rfl
theorem cw_X12_delay : Cond.code yX12_delay cX12_delay 4 (Option.some Jvm.ClassFile.FieldType.int) ∈ tblG := mem_t 1919 (by decide +kernel) rfl
theorem nd_X12_delay : yX12_delay.cls ≠ "java/lang/invoke/MethodHandle" ∧ yX12_delay.cls ≠ "java/lang/invoke/VarHandle" ∧ (parseMethodDescriptor yX12_delay.desc).map (fun d => d.parameters.length) = some 2 := by decide +kernel
theorem ml_Law_156 : Cond.methodLink "GatePatchLaw" 156 yX11_arrive ∈ tblG := mem_t 1064 (by decide +kernel) rfl
theorem im_X11_arrive : Cond.instanceMethod yX11_arrive ∈ tblG := mem_t 1065 (by decide +kernel) rfl
theorem se_X11_arrive : Cond.selects "GatePatch" yX11_arrive yX11_arrive ∈ tblG := mem_t 1066 (by decide +kernel) rfl
theorem cw_X11_arrive : Cond.code yX11_arrive cX11_arrive 4 (Option.some Jvm.ClassFile.FieldType.int) ∈ tblG := mem_t 1067 (by decide +kernel) rfl
theorem nd_X11_arrive : yX11_arrive.cls ≠ "java/lang/invoke/MethodHandle" ∧ yX11_arrive.cls ≠ "java/lang/invoke/VarHandle" ∧ (parseMethodDescriptor yX11_arrive.desc).map (fun d => d.parameters.length) = some 2 := by decide +kernel
theorem ml_Law_159 : Cond.methodLink "GatePatchLaw" 159 yX12_arrive ∈ tblG := mem_t 1920 (by decide +kernel) rfl
theorem im_X12_arrive : Cond.instanceMethod yX12_arrive ∈ tblG := mem_t 1921 (by decide +kernel) rfl
theorem se_X12_arrive : Cond.selects "GatePatchModel" yX12_arrive yX12_arrive ∈ tblG := mem_t 1922 (by decide +kernel) rfl
theorem cw_X12_arrive : Cond.code yX12_arrive cX12_arrive 3 (Option.some Jvm.ClassFile.FieldType.int) ∈ tblG := mem_t 1923 (by decide +kernel) rfl
theorem nd_X12_arrive : yX12_arrive.cls ≠ "java/lang/invoke/MethodHandle" ∧ yX12_arrive.cls ≠ "java/lang/invoke/VarHandle" ∧ (parseMethodDescriptor yX12_arrive.desc).map (fun d => d.parameters.length) = some 2 := by decide +kernel
theorem ml_Law_160 : Cond.methodLink "GatePatchLaw" 160 yX11_late ∈ tblG := mem_t 1075 (by decide +kernel) rfl
theorem im_X11_late : Cond.instanceMethod yX11_late ∈ tblG := mem_t 1076 (by decide +kernel) rfl
theorem se_X11_late : Cond.selects "GatePatch" yX11_late yX11_late ∈ tblG := mem_t 1077 (by decide +kernel) rfl
theorem cw_X11_late : Cond.code yX11_late cX11_late 4 (Option.some Jvm.ClassFile.FieldType.int) ∈ tblG := mem_t 1078 (by decide +kernel) rfl
theorem nd_X11_late : yX11_late.cls ≠ "java/lang/invoke/MethodHandle" ∧ yX11_late.cls ≠ "java/lang/invoke/VarHandle" ∧ (parseMethodDescriptor yX11_late.desc).map (fun d => d.parameters.length) = some 1 := by decide +kernel
theorem ml_Law_163 : Cond.methodLink "GatePatchLaw" 163 yX12_late ∈ tblG := mem_t 1928 (by decide +kernel) rfl
theorem im_X12_late : Cond.instanceMethod yX12_late ∈ tblG := mem_t 1929 (by decide +kernel) rfl
theorem se_X12_late : Cond.selects "GatePatchModel" yX12_late yX12_late ∈ tblG := mem_t 1930 (by decide +kernel) rfl
theorem cw_X12_late : Cond.code yX12_late cX12_late 4 (Option.some Jvm.ClassFile.FieldType.int) ∈ tblG := mem_t 1931 (by decide +kernel) rfl
theorem nd_X12_late : yX12_late.cls ≠ "java/lang/invoke/MethodHandle" ∧ yX12_late.cls ≠ "java/lang/invoke/VarHandle" ∧ (parseMethodDescriptor yX12_late.desc).map (fun d => d.parameters.length) = some 1 := by decide +kernel
theorem ml_Law_164 : Cond.methodLink "GatePatchLaw" 164 yX11_apply ∈ tblG := mem_t 1080 (by decide +kernel) rfl
theorem im_X11_apply : Cond.instanceMethod yX11_apply ∈ tblG := mem_t 1081 (by decide +kernel) rfl
theorem se_X11_apply : Cond.selects "GatePatch" yX11_apply yX11_apply ∈ tblG := mem_t 1082 (by decide +kernel) rfl
theorem cw_X11_apply : Cond.code yX11_apply cX11_apply 4 (Option.some Jvm.ClassFile.FieldType.int) ∈ tblG := mem_t 1083 (by decide +kernel) rfl
theorem nd_X11_apply : yX11_apply.cls ≠ "java/lang/invoke/MethodHandle" ∧ yX11_apply.cls ≠ "java/lang/invoke/VarHandle" ∧ (parseMethodDescriptor yX11_apply.desc).map (fun d => d.parameters.length) = some 0 := by decide +kernel
theorem ml_Law_167 : Cond.methodLink "GatePatchLaw" 167 yX12_apply ∈ tblG := mem_t 1932 (by decide +kernel) rfl
theorem im_X12_apply : Cond.instanceMethod yX12_apply ∈ tblG := mem_t 1933 (by decide +kernel) rfl
theorem se_X12_apply : Cond.selects "GatePatchModel" yX12_apply yX12_apply ∈ tblG := mem_t 1934 (by decide +kernel) rfl
theorem cw_X12_apply : Cond.code yX12_apply cX12_apply 5 (Option.some Jvm.ClassFile.FieldType.int) ∈ tblG := mem_t 1935 (by decide +kernel) rfl
theorem nd_X12_apply : yX12_apply.cls ≠ "java/lang/invoke/MethodHandle" ∧ yX12_apply.cls ≠ "java/lang/invoke/VarHandle" ∧ (parseMethodDescriptor yX12_apply.desc).map (fun d => d.parameters.length) = some 0 := by decide +kernel
theorem ml_Law_168 : Cond.methodLink "GatePatchLaw" 168 yX11_undo ∈ tblG := mem_t 1136 (by decide +kernel) rfl
theorem im_X11_undo : Cond.instanceMethod yX11_undo ∈ tblG := mem_t 1137 (by decide +kernel) rfl
theorem se_X11_undo : Cond.selects "GatePatch" yX11_undo yX11_undo ∈ tblG := mem_t 1138 (by decide +kernel) rfl
theorem cw_X11_undo : Cond.code yX11_undo cX11_undo 1 (Option.some Jvm.ClassFile.FieldType.int) ∈ tblG := mem_t 1139 (by decide +kernel) rfl
theorem nd_X11_undo : yX11_undo.cls ≠ "java/lang/invoke/MethodHandle" ∧ yX11_undo.cls ≠ "java/lang/invoke/VarHandle" ∧ (parseMethodDescriptor yX11_undo.desc).map (fun d => d.parameters.length) = some 0 := by decide +kernel
theorem ml_Law_171 : Cond.methodLink "GatePatchLaw" 171 yX12_undo ∈ tblG := mem_t 1972 (by decide +kernel) rfl
theorem im_X12_undo : Cond.instanceMethod yX12_undo ∈ tblG := mem_t 1973 (by decide +kernel) rfl
theorem se_X12_undo : Cond.selects "GatePatchModel" yX12_undo yX12_undo ∈ tblG := mem_t 1974 (by decide +kernel) rfl
theorem cw_X12_undo : Cond.code yX12_undo cX12_undo 2 (Option.some Jvm.ClassFile.FieldType.int) ∈ tblG := mem_t 1975 (by decide +kernel) rfl
theorem nd_X12_undo : yX12_undo.cls ≠ "java/lang/invoke/MethodHandle" ∧ yX12_undo.cls ≠ "java/lang/invoke/VarHandle" ∧ (parseMethodDescriptor yX12_undo.desc).map (fun d => d.parameters.length) = some 0 := by decide +kernel
theorem ml_Law_172 : Cond.methodLink "GatePatchLaw" 172 yX11_change ∈ tblG := mem_t 1154 (by decide +kernel) rfl
theorem im_X11_change : Cond.instanceMethod yX11_change ∈ tblG := mem_t 1155 (by decide +kernel) rfl
theorem se_X11_change : Cond.selects "GatePatch" yX11_change yX11_change ∈ tblG := mem_t 1156 (by decide +kernel) rfl
theorem cw_X11_change : Cond.code yX11_change cX11_change 3 (Option.some Jvm.ClassFile.FieldType.int) ∈ tblG := mem_t 1157 (by decide +kernel) rfl
theorem nd_X11_change : yX11_change.cls ≠ "java/lang/invoke/MethodHandle" ∧ yX11_change.cls ≠ "java/lang/invoke/VarHandle" ∧ (parseMethodDescriptor yX11_change.desc).map (fun d => d.parameters.length) = some 2 := by decide +kernel
theorem ml_Law_175 : Cond.methodLink "GatePatchLaw" 175 yX12_change ∈ tblG := mem_t 1980 (by decide +kernel) rfl
theorem im_X12_change : Cond.instanceMethod yX12_change ∈ tblG := mem_t 1981 (by decide +kernel) rfl
theorem se_X12_change : Cond.selects "GatePatchModel" yX12_change yX12_change ∈ tblG := mem_t 1982 (by decide +kernel) rfl
theorem cw_X12_change : Cond.code yX12_change cX12_change 3 (Option.some Jvm.ClassFile.FieldType.int) ∈ tblG := mem_t 1983 (by decide +kernel) rfl
theorem nd_X12_change : yX12_change.cls ≠ "java/lang/invoke/MethodHandle" ∧ yX12_change.cls ≠ "java/lang/invoke/VarHandle" ∧ (parseMethodDescriptor yX12_change.desc).map (fun d => d.parameters.length) = some 2 := by decide +kernel
theorem ml_Law_176 : Cond.methodLink "GatePatchLaw" 176 yX11_test ∈ tblG := mem_t 1158 (by decide +kernel) rfl
theorem im_X11_test : Cond.instanceMethod yX11_test ∈ tblG := mem_t 1159 (by decide +kernel) rfl
theorem se_X11_test : Cond.selects "GatePatch" yX11_test yX11_test ∈ tblG := mem_t 1160 (by decide +kernel) rfl
theorem cw_X11_test : Cond.code yX11_test cX11_test 2 (Option.some Jvm.ClassFile.FieldType.int) ∈ tblG := mem_t 1161 (by decide +kernel) rfl
theorem nd_X11_test : yX11_test.cls ≠ "java/lang/invoke/MethodHandle" ∧ yX11_test.cls ≠ "java/lang/invoke/VarHandle" ∧ (parseMethodDescriptor yX11_test.desc).map (fun d => d.parameters.length) = some 1 := by decide +kernel
theorem ml_Law_179 : Cond.methodLink "GatePatchLaw" 179 yX12_test ∈ tblG := mem_t 1984 (by decide +kernel) rfl
theorem im_X12_test : Cond.instanceMethod yX12_test ∈ tblG := mem_t 1985 (by decide +kernel) rfl
theorem se_X12_test : Cond.selects "GatePatchModel" yX12_test yX12_test ∈ tblG := mem_t 1986 (by decide +kernel) rfl
theorem cw_X12_test : Cond.code yX12_test cX12_test 2 (Option.some Jvm.ClassFile.FieldType.int) ∈ tblG := mem_t 1987 (by decide +kernel) rfl
theorem nd_X12_test : yX12_test.cls ≠ "java/lang/invoke/MethodHandle" ∧ yX12_test.cls ≠ "java/lang/invoke/VarHandle" ∧ (parseMethodDescriptor yX12_test.desc).map (fun d => d.parameters.length) = some 1 := by decide +kernel
theorem ml_Law_180 : Cond.methodLink "GatePatchLaw" 180 yX11_idle ∈ tblG := mem_t 1162 (by decide +kernel) rfl
theorem im_X11_idle : Cond.instanceMethod yX11_idle ∈ tblG := mem_t 1163 (by decide +kernel) rfl
theorem se_X11_idle : Cond.selects "GatePatch" yX11_idle yX11_idle ∈ tblG := mem_t 1164 (by decide +kernel) rfl
theorem cw_X11_idle : Cond.code yX11_idle cX11_idle 6 (Option.some Jvm.ClassFile.FieldType.int) ∈ tblG := mem_t 1165 (by decide +kernel) rfl
theorem nd_X11_idle : yX11_idle.cls ≠ "java/lang/invoke/MethodHandle" ∧ yX11_idle.cls ≠ "java/lang/invoke/VarHandle" ∧ (parseMethodDescriptor yX11_idle.desc).map (fun d => d.parameters.length) = some 1 := by decide +kernel
theorem ml_Law_183 : Cond.methodLink "GatePatchLaw" 183 yX12_idle ∈ tblG := mem_t 1988 (by decide +kernel) rfl
theorem im_X12_idle : Cond.instanceMethod yX12_idle ∈ tblG := mem_t 1989 (by decide +kernel) rfl
theorem se_X12_idle : Cond.selects "GatePatchModel" yX12_idle yX12_idle ∈ tblG := mem_t 1990 (by decide +kernel) rfl
theorem cw_X12_idle : Cond.code yX12_idle cX12_idle 6 (Option.some Jvm.ClassFile.FieldType.int) ∈ tblG := mem_t 1991 (by decide +kernel) rfl
theorem nd_X12_idle : yX12_idle.cls ≠ "java/lang/invoke/MethodHandle" ∧ yX12_idle.cls ≠ "java/lang/invoke/VarHandle" ∧ (parseMethodDescriptor yX12_idle.desc).map (fun d => d.parameters.length) = some 1 := by decide +kernel
theorem ml_Law_184 : Cond.methodLink "GatePatchLaw" 184 yX11_tape ∈ tblG := mem_t 1168 (by decide +kernel) rfl
theorem im_X11_tape : Cond.instanceMethod yX11_tape ∈ tblG := mem_t 1169 (by decide +kernel) rfl
theorem se_X11_tape : Cond.selects "GatePatch" yX11_tape yX11_tape ∈ tblG := mem_t 1170 (by decide +kernel) rfl
theorem cw_X11_tape : Cond.code yX11_tape cX11_tape 4 (Option.some Jvm.ClassFile.FieldType.int) ∈ tblG := mem_t 1171 (by decide +kernel) rfl
theorem nd_X11_tape : yX11_tape.cls ≠ "java/lang/invoke/MethodHandle" ∧ yX11_tape.cls ≠ "java/lang/invoke/VarHandle" ∧ (parseMethodDescriptor yX11_tape.desc).map (fun d => d.parameters.length) = some 3 := by decide +kernel
theorem ml_Law_187 : Cond.methodLink "GatePatchLaw" 187 yX12_tape ∈ tblG := mem_t 1992 (by decide +kernel) rfl
theorem im_X12_tape : Cond.instanceMethod yX12_tape ∈ tblG := mem_t 1993 (by decide +kernel) rfl
theorem se_X12_tape : Cond.selects "GatePatchModel" yX12_tape yX12_tape ∈ tblG := mem_t 1994 (by decide +kernel) rfl
theorem cw_X12_tape : Cond.code yX12_tape cX12_tape 5 (Option.some Jvm.ClassFile.FieldType.int) ∈ tblG := mem_t 1995 (by decide +kernel) rfl
theorem nd_X12_tape : yX12_tape.cls ≠ "java/lang/invoke/MethodHandle" ∧ yX12_tape.cls ≠ "java/lang/invoke/VarHandle" ∧ (parseMethodDescriptor yX12_tape.desc).map (fun d => d.parameters.length) = some 3 := by decide +kernel
theorem ml_Law_188 : Cond.methodLink "GatePatchLaw" 188 yX11_image ∈ tblG := mem_t 1172 (by decide +kernel) rfl
theorem im_X11_image : Cond.instanceMethod yX11_image ∈ tblG := mem_t 1173 (by decide +kernel) rfl
theorem se_X11_image : Cond.selects "GatePatch" yX11_image yX11_image ∈ tblG := mem_t 1174 (by decide +kernel) rfl
theorem cw_X11_image : Cond.code yX11_image cX11_image 2 (Option.some Jvm.ClassFile.FieldType.int) ∈ tblG := mem_t 1175 (by decide +kernel) rfl
theorem nd_X11_image : yX11_image.cls ≠ "java/lang/invoke/MethodHandle" ∧ yX11_image.cls ≠ "java/lang/invoke/VarHandle" ∧ (parseMethodDescriptor yX11_image.desc).map (fun d => d.parameters.length) = some 1 := by decide +kernel
theorem ml_Law_191 : Cond.methodLink "GatePatchLaw" 191 yX12_image ∈ tblG := mem_t 1996 (by decide +kernel) rfl
theorem im_X12_image : Cond.instanceMethod yX12_image ∈ tblG := mem_t 1997 (by decide +kernel) rfl
theorem se_X12_image : Cond.selects "GatePatchModel" yX12_image yX12_image ∈ tblG := mem_t 1998 (by decide +kernel) rfl
theorem cw_X12_image : Cond.code yX12_image cX12_image 2 (Option.some Jvm.ClassFile.FieldType.int) ∈ tblG := mem_t 1999 (by decide +kernel) rfl
theorem nd_X12_image : yX12_image.cls ≠ "java/lang/invoke/MethodHandle" ∧ yX12_image.cls ≠ "java/lang/invoke/VarHandle" ∧ (parseMethodDescriptor yX12_image.desc).map (fun d => d.parameters.length) = some 1 := by decide +kernel
theorem ml_Law_192 : Cond.methodLink "GatePatchLaw" 192 yX11_back ∈ tblG := mem_t 1177 (by decide +kernel) rfl
theorem im_X11_back : Cond.instanceMethod yX11_back ∈ tblG := mem_t 1178 (by decide +kernel) rfl
theorem se_X11_back : Cond.selects "GatePatch" yX11_back yX11_back ∈ tblG := mem_t 1179 (by decide +kernel) rfl
theorem cw_X11_back : Cond.code yX11_back cX11_back 3 (Option.some Jvm.ClassFile.FieldType.int) ∈ tblG := mem_t 1180 (by decide +kernel) rfl
theorem nd_X11_back : yX11_back.cls ≠ "java/lang/invoke/MethodHandle" ∧ yX11_back.cls ≠ "java/lang/invoke/VarHandle" ∧ (parseMethodDescriptor yX11_back.desc).map (fun d => d.parameters.length) = some 1 := by decide +kernel
theorem ml_Law_195 : Cond.methodLink "GatePatchLaw" 195 yX12_back ∈ tblG := mem_t 2000 (by decide +kernel) rfl
theorem im_X12_back : Cond.instanceMethod yX12_back ∈ tblG := mem_t 2001 (by decide +kernel) rfl
theorem se_X12_back : Cond.selects "GatePatchModel" yX12_back yX12_back ∈ tblG := mem_t 2002 (by decide +kernel) rfl
theorem cw_X12_back : Cond.code yX12_back cX12_back 2 (Option.some Jvm.ClassFile.FieldType.int) ∈ tblG := mem_t 2003 (by decide +kernel) rfl
theorem nd_X12_back : yX12_back.cls ≠ "java/lang/invoke/MethodHandle" ∧ yX12_back.cls ≠ "java/lang/invoke/VarHandle" ∧ (parseMethodDescriptor yX12_back.desc).map (fun d => d.parameters.length) = some 1 := by decide +kernel
theorem ml_Law_196 : Cond.methodLink "GatePatchLaw" 196 yX11_toss ∈ tblG := mem_t 1188 (by decide +kernel) rfl
theorem im_X11_toss : Cond.instanceMethod yX11_toss ∈ tblG := mem_t 1189 (by decide +kernel) rfl
theorem se_X11_toss : Cond.selects "GatePatch" yX11_toss yX11_toss ∈ tblG := mem_t 1190 (by decide +kernel) rfl
theorem cw_X11_toss : Cond.code yX11_toss cX11_toss 3 (Option.some Jvm.ClassFile.FieldType.int) ∈ tblG := mem_t 1191 (by decide +kernel) rfl
theorem nd_X11_toss : yX11_toss.cls ≠ "java/lang/invoke/MethodHandle" ∧ yX11_toss.cls ≠ "java/lang/invoke/VarHandle" ∧ (parseMethodDescriptor yX11_toss.desc).map (fun d => d.parameters.length) = some 1 := by decide +kernel
theorem ml_Law_199 : Cond.methodLink "GatePatchLaw" 199 yX12_toss ∈ tblG := mem_t 2004 (by decide +kernel) rfl
theorem im_X12_toss : Cond.instanceMethod yX12_toss ∈ tblG := mem_t 2005 (by decide +kernel) rfl
theorem se_X12_toss : Cond.selects "GatePatchModel" yX12_toss yX12_toss ∈ tblG := mem_t 2006 (by decide +kernel) rfl
theorem cw_X12_toss : Cond.code yX12_toss cX12_toss 2 (Option.some Jvm.ClassFile.FieldType.int) ∈ tblG := mem_t 2007 (by decide +kernel) rfl
theorem nd_X12_toss : yX12_toss.cls ≠ "java/lang/invoke/MethodHandle" ∧ yX12_toss.cls ≠ "java/lang/invoke/VarHandle" ∧ (parseMethodDescriptor yX12_toss.desc).map (fun d => d.parameters.length) = some 1 := by decide +kernel
theorem ml_Law_200 : Cond.methodLink "GatePatchLaw" 200 yX11_clear ∈ tblG := mem_t 1192 (by decide +kernel) rfl
theorem im_X11_clear : Cond.instanceMethod yX11_clear ∈ tblG := mem_t 1193 (by decide +kernel) rfl
theorem se_X11_clear : Cond.selects "GatePatch" yX11_clear yX11_clear ∈ tblG := mem_t 1194 (by decide +kernel) rfl
theorem cw_X11_clear : Cond.code yX11_clear cX11_clear 3 (Option.some Jvm.ClassFile.FieldType.int) ∈ tblG := mem_t 1195 (by decide +kernel) rfl
theorem nd_X11_clear : yX11_clear.cls ≠ "java/lang/invoke/MethodHandle" ∧ yX11_clear.cls ≠ "java/lang/invoke/VarHandle" ∧ (parseMethodDescriptor yX11_clear.desc).map (fun d => d.parameters.length) = some 1 := by decide +kernel
theorem ml_Law_203 : Cond.methodLink "GatePatchLaw" 203 yX12_clear ∈ tblG := mem_t 2008 (by decide +kernel) rfl
theorem im_X12_clear : Cond.instanceMethod yX12_clear ∈ tblG := mem_t 2009 (by decide +kernel) rfl
theorem se_X12_clear : Cond.selects "GatePatchModel" yX12_clear yX12_clear ∈ tblG := mem_t 2010 (by decide +kernel) rfl
theorem cw_X12_clear : Cond.code yX12_clear cX12_clear 3 (Option.some Jvm.ClassFile.FieldType.int) ∈ tblG := mem_t 2011 (by decide +kernel) rfl
theorem nd_X12_clear : yX12_clear.cls ≠ "java/lang/invoke/MethodHandle" ∧ yX12_clear.cls ≠ "java/lang/invoke/VarHandle" ∧ (parseMethodDescriptor yX12_clear.desc).map (fun d => d.parameters.length) = some 1 := by decide +kernel
theorem k_Law_204 : Cond.constantLong "GatePatchLaw" 204 (Int64.ofInt 4294967295) ∈ tblG := mem_t 2031 (by decide +kernel) rfl
theorem ml_Law_206 : Cond.methodLink "GatePatchLaw" 206 yX11_put ∈ tblG := mem_t 1196 (by decide +kernel) rfl
theorem im_X11_put : Cond.instanceMethod yX11_put ∈ tblG := mem_t 1197 (by decide +kernel) rfl
theorem se_X11_put : Cond.selects "GatePatch" yX11_put yX11_put ∈ tblG := mem_t 1198 (by decide +kernel) rfl
theorem cw_X11_put : Cond.code yX11_put cX11_put 5 (Option.some Jvm.ClassFile.FieldType.int) ∈ tblG := mem_t 1199 (by decide +kernel) rfl
theorem nd_X11_put : yX11_put.cls ≠ "java/lang/invoke/MethodHandle" ∧ yX11_put.cls ≠ "java/lang/invoke/VarHandle" ∧ (parseMethodDescriptor yX11_put.desc).map (fun d => d.parameters.length) = some 3 := by decide +kernel
theorem ml_Law_210 : Cond.methodLink "GatePatchLaw" 210 yX12_put ∈ tblG := mem_t 2012 (by decide +kernel) rfl
theorem im_X12_put : Cond.instanceMethod yX12_put ∈ tblG := mem_t 2013 (by decide +kernel) rfl
theorem se_X12_put : Cond.selects "GatePatchModel" yX12_put yX12_put ∈ tblG := mem_t 2014 (by decide +kernel) rfl
theorem cw_X12_put : Cond.code yX12_put cX12_put 5 (Option.some Jvm.ClassFile.FieldType.int) ∈ tblG := mem_t 2015 (by decide +kernel) rfl
theorem nd_X12_put : yX12_put.cls ≠ "java/lang/invoke/MethodHandle" ∧ yX12_put.cls ≠ "java/lang/invoke/VarHandle" ∧ (parseMethodDescriptor yX12_put.desc).map (fun d => d.parameters.length) = some 3 := by decide +kernel
theorem ml_Law_214 : Cond.methodLink "GatePatchLaw" 214 yX12_at ∈ tblG := mem_t 2019 (by decide +kernel) rfl
theorem im_X12_at : Cond.instanceMethod yX12_at ∈ tblG := mem_t 2020 (by decide +kernel) rfl
theorem se_X12_at : Cond.selects "GatePatchModel" yX12_at yX12_at ∈ tblG := mem_t 2021 (by decide +kernel) rfl
theorem cw_X12_at : Cond.code yX12_at cX12_at 3 (Option.some Jvm.ClassFile.FieldType.long) ∈ tblG := mem_t 2022 (by decide +kernel) rfl
theorem nd_X12_at : yX12_at.cls ≠ "java/lang/invoke/MethodHandle" ∧ yX12_at.cls ≠ "java/lang/invoke/VarHandle" ∧ (parseMethodDescriptor yX12_at.desc).map (fun d => d.parameters.length) = some 2 := by decide +kernel
theorem ml_Law_215 : Cond.methodLink "GatePatchLaw" 215 yX11_copy ∈ tblG := mem_t 1212 (by decide +kernel) rfl
theorem im_X11_copy : Cond.instanceMethod yX11_copy ∈ tblG := mem_t 1213 (by decide +kernel) rfl
theorem se_X11_copy : Cond.selects "GatePatch" yX11_copy yX11_copy ∈ tblG := mem_t 1214 (by decide +kernel) rfl
theorem cw_X11_copy : Cond.code yX11_copy cX11_copy 8 (Option.some Jvm.ClassFile.FieldType.int) ∈ tblG := mem_t 1215 (by decide +kernel) rfl
theorem nd_X11_copy : yX11_copy.cls ≠ "java/lang/invoke/MethodHandle" ∧ yX11_copy.cls ≠ "java/lang/invoke/VarHandle" ∧ (parseMethodDescriptor yX11_copy.desc).map (fun d => d.parameters.length) = some 5 := by decide +kernel
theorem ml_Law_218 : Cond.methodLink "GatePatchLaw" 218 yX12_copy ∈ tblG := mem_t 2023 (by decide +kernel) rfl
theorem im_X12_copy : Cond.instanceMethod yX12_copy ∈ tblG := mem_t 2024 (by decide +kernel) rfl
theorem se_X12_copy : Cond.selects "GatePatchModel" yX12_copy yX12_copy ∈ tblG := mem_t 2025 (by decide +kernel) rfl
theorem cw_X12_copy : Cond.code yX12_copy cX12_copy 7 (Option.some Jvm.ClassFile.FieldType.int) ∈ tblG := mem_t 2026 (by decide +kernel) rfl
theorem nd_X12_copy : yX12_copy.cls ≠ "java/lang/invoke/MethodHandle" ∧ yX12_copy.cls ≠ "java/lang/invoke/VarHandle" ∧ (parseMethodDescriptor yX12_copy.desc).map (fun d => d.parameters.length) = some 5 := by decide +kernel
theorem ml_Law_219 : Cond.methodLink "GatePatchLaw" 219 yX11_count ∈ tblG := mem_t 1220 (by decide +kernel) rfl
theorem im_X11_count : Cond.instanceMethod yX11_count ∈ tblG := mem_t 1221 (by decide +kernel) rfl
theorem se_X11_count : Cond.selects "GatePatch" yX11_count yX11_count ∈ tblG := mem_t 1222 (by decide +kernel) rfl
theorem cw_X11_count : Cond.code yX11_count cX11_count 2 (Option.some Jvm.ClassFile.FieldType.int) ∈ tblG := mem_t 1223 (by decide +kernel) rfl
theorem nd_X11_count : yX11_count.cls ≠ "java/lang/invoke/MethodHandle" ∧ yX11_count.cls ≠ "java/lang/invoke/VarHandle" ∧ (parseMethodDescriptor yX11_count.desc).map (fun d => d.parameters.length) = some 1 := by decide +kernel
theorem ml_Law_222 : Cond.methodLink "GatePatchLaw" 222 yX12_count ∈ tblG := mem_t 2027 (by decide +kernel) rfl
theorem im_X12_count : Cond.instanceMethod yX12_count ∈ tblG := mem_t 2028 (by decide +kernel) rfl
theorem se_X12_count : Cond.selects "GatePatchModel" yX12_count yX12_count ∈ tblG := mem_t 2029 (by decide +kernel) rfl
theorem cw_X12_count : Cond.code yX12_count cX12_count 4 (Option.some Jvm.ClassFile.FieldType.int) ∈ tblG := mem_t 2030 (by decide +kernel) rfl
theorem nd_X12_count : yX12_count.cls ≠ "java/lang/invoke/MethodHandle" ∧ yX12_count.cls ≠ "java/lang/invoke/VarHandle" ∧ (parseMethodDescriptor yX12_count.desc).map (fun d => d.parameters.length) = some 1 := by decide +kernel
