/** The boundary cases of promises 14 to 17: the text, its fault, and its orders. */
public final class BoundaryTextTest extends Boundaries {
    public static void main(String[] args) throws IllegalAccessException {
        runCases(BoundaryTextTest.class, 14, 17);
    }

    private static ConferenceBridges written(String text) {
        ConferenceBridges x = fresh();
        write(x, text);
        return x;
    }

    /** Three phones at bridge 0, a room at bridge 2, bridge 1 for phones only, and a text. */
    private static ConferenceBridges ordered(String text) {
        ConferenceBridges x = phones(3, 0);
        x.addBridge(0, 2, true);
        x.addBridge(0, 2, false);
        x.join(2, 1);
        write(x, text);
        return x;
    }

    /** "T1" and blanks behind it, 100 bytes in all. */
    private static String fullText() {
        return "T1" + " ".repeat(98);
    }

    // ---- promise 14: type

    static void promise14_code_below_0_is_refused() {
        refused(BAD_VALUE, Boundaries::lively, x -> x.type(-1));
        refused(BAD_VALUE, Boundaries::lively, x -> x.type(-128));
        refused(BAD_VALUE, Boundaries::lively, x -> x.type(LEAST));
    }

    static void promise14_code_0_is_taken() {
        due("type(0)", fresh().type(0), 1);
        due("textFault()", written("T1" + (char) 0).textFault(), 2);
    }

    static void promise14_code_255_is_taken() {
        due("type(255)", fresh().type(255), 1);
        due("textFault()", written("T1" + (char) 255).textFault(), 2);
    }

    static void promise14_every_code_from_0_to_255_is_taken() {
        for (int code = 0; code <= 255; code++) {
            due("type(" + code + ")", fresh().type(code), 1);
        }
    }

    static void promise14_code_256_and_more_is_refused() {
        refused(BAD_VALUE, Boundaries::lively, x -> x.type(256));
        refused(BAD_VALUE, Boundaries::lively, x -> x.type(256 + 'T'));
        refused(BAD_VALUE, Boundaries::lively, x -> x.type(MOST));
    }

    static void promise14_a_code_that_no_order_has_is_taken() {
        due("type('x')", written("T1").type('x'), 3);
    }

    static void promise14_the_hundredth_byte_is_taken() {
        ConferenceBridges x = fresh();
        for (int length = 1; length <= 100; length++) {
            due("type(32)", x.type(32), length);
        }
        due("textFault()", x.textFault(), 100);
    }

    static void promise14_a_hundred_and_first_byte_is_refused() {
        refused(FULL, () -> written(fullText()), x -> x.type(32));
        refused(FULL, () -> written(fullText()), x -> x.type('x'));
    }

    static void promise14_a_bad_code_comes_before_full() {
        refused(BAD_VALUE, () -> written(fullText()), x -> x.type(256));
        refused(BAD_VALUE, () -> written(fullText()), x -> x.type(-1));
    }

    static void promise14_it_is_not_undoable() {
        ConferenceBridges x = phones(1, 30);
        x.type('T');
        due("undo()", x.undo(), 1);
        due("property(0, 2)", x.property(0, 2), 0);
        due("type('1')", x.type('1'), 2);
    }

    // ---- promise 15: clearText

    static void promise15_an_empty_text_had_the_length_0() {
        ConferenceBridges x = fresh();
        due("clearText()", x.clearText(), 0);
        due("clearText()", x.clearText(), 0);
    }

    static void promise15_a_full_text_had_the_length_100() {
        ConferenceBridges x = written(fullText());
        due("clearText()", x.clearText(), 100);
        due("clearText() again", x.clearText(), 0);
    }

    static void promise15_after_a_full_text_there_is_room_again() {
        ConferenceBridges x = written(fullText());
        x.clearText();
        due("type('T')", x.type('T'), 1);
        due("textFault()", x.textFault(), 1);
    }

    static void promise15_nothing_of_the_old_text_is_left() {
        ConferenceBridges x = written("T1;T2;T3");
        x.clearText();
        due("textFault()", x.textFault(), 0);
        due("run()", x.run(), BAD_STATE);
        write(x, "T4");
        due("run()", x.run(), 1);
        due("count(3)", x.count(3), 4);
    }

    static void promise15_it_is_not_undoable() {
        ConferenceBridges x = written("T1");
        x.join(0, 0);
        x.clearText();
        due("undo()", x.undo(), 0);
        due("the text is still empty", x.textFault(), 0);
    }

    // ---- promise 16: textFault

    private static void dueFault(String text, int want) {
        due("textFault() of '" + text + "'", written(text).textFault(), want);
        ConferenceBridges x = ordered(text);
        due("run() of '" + text + "' is refused: it", x.run() == BAD_STATE ? 1 : 0, want == NONE ? 0 : 1);
    }

    private static void dueEarly(String text) {
        dueFault(text, text.length());
    }

    static void promise16_an_empty_text_ends_too_early() {
        dueEarly("");
    }

    static void promise16_blanks_alone_end_too_early() {
        dueEarly(" ");
        dueEarly("     ");
        dueEarly(" ".repeat(100));
    }

    static void promise16_a_text_that_ends_behind_a_letter_ends_too_early() {
        for (String letter : "L M R T F U".split(" ")) {
            dueEarly(letter);
            dueEarly("T1;" + letter + "  ");
        }
    }

    static void promise16_a_text_that_ends_behind_the_first_of_two_numbers_ends_too_early() {
        for (String letter : "L M R".split(" ")) {
            dueEarly(letter + "1");
            dueEarly(letter + "12");
            dueEarly(letter + " 12 ");
        }
    }

    static void promise16_a_text_that_ends_behind_a_semicolon_ends_too_early() {
        dueEarly("T1;");
        dueEarly("T1 ; ");
        dueEarly("L1 2;M1 2;");
    }

    static void promise16_a_text_that_ends_too_early_at_100_bytes() {
        dueEarly("T" + " ".repeat(99));
        dueEarly("L 1" + " ".repeat(97));
        dueEarly("T1" + " ".repeat(97) + ";");
    }

    static void promise16_every_order_by_itself_has_no_fault() {
        for (String order : new String[] {"L1 2", "M1 2", "R1 2", "T1", "F1", "U1"}) {
            dueFault(order, NONE);
            dueFault(order + ";" + order, NONE);
        }
    }

    static void promise16_numbers_with_one_or_two_digits_have_no_fault() {
        for (String number : new String[] {"0", "9", "00", "09", "90", "99"}) {
            dueFault("T" + number, NONE);
            dueFault("L" + number + " " + number, NONE);
        }
    }

    static void promise16_a_number_with_three_digits_is_a_fault_at_its_first_digit() {
        dueFault("T100", 1);
        dueFault("T  000", 3);
        dueFault("U001;T1", 1);
        dueFault("T1;F123", 4);
    }

    static void promise16_the_first_of_two_numbers_with_three_digits_is_a_fault_at_its_first_digit() {
        dueFault("L100", 1);
        dueFault("L100 1", 1);
        dueFault("M 123 x", 2);
    }

    static void promise16_the_second_of_two_numbers_with_three_digits_is_a_fault_at_its_first_digit() {
        dueFault("L1 100", 3);
        dueFault("R 12  999;T1", 6);
    }

    static void promise16_a_number_with_very_many_digits_is_a_fault_at_its_first_digit() {
        dueFault("T" + "9".repeat(99), 1);
        dueFault("L1 " + "0".repeat(97), 3);
    }

    static void promise16_a_third_digit_as_the_last_byte_is_a_fault_at_the_first_one() {
        dueFault(" ".repeat(96) + "T123", 97);
    }

    static void promise16_a_number_too_many_is_a_fault() {
        dueFault("T1 2", 3);
        dueFault("F1 200", 3);
        dueFault("U1  2;T1", 4);
        dueFault("L1 2 3", 5);
        dueFault("M1 2 345", 5);
    }

    static void promise16_a_semicolon_instead_of_a_number_is_a_fault() {
        dueFault("T;", 1);
        dueFault("T ;T1", 2);
        dueFault("L1;", 2);
        dueFault("L1 ;T1", 3);
        dueFault("L;", 1);
    }

    static void promise16_a_semicolon_instead_of_an_order_is_a_fault() {
        dueFault(";", 0);
        dueFault("  ;T1", 2);
        dueFault("T1;;T1", 3);
        dueFault("T1; ;", 4);
    }

    static void promise16_a_letter_instead_of_a_number_is_a_fault() {
        dueFault("TT1", 1);
        dueFault("L L1 2", 2);
        dueFault("L1 U2", 3);
    }

    static void promise16_a_letter_instead_of_a_semicolon_is_a_fault() {
        dueFault("T1T2", 2);
        dueFault("L1 2 T3", 5);
    }

    static void promise16_a_number_instead_of_a_letter_is_a_fault() {
        dueFault("1", 0);
        dueFault(" 12 3", 1);
        dueFault("100", 0);
        dueFault("T1;2", 3);
    }

    static void promise16_only_six_letters_can_stand() {
        for (int code = 0; code <= 255; code++) {
            ConferenceBridges x = fresh();
            x.type(code);
            boolean stands = code == ' ' || "LMRTFU".indexOf(code) >= 0;
            due("textFault() of byte " + code, x.textFault(), stands ? 1 : 0);
        }
    }

    static void promise16_only_ten_digits_can_stand() {
        for (int code = 0; code <= 255; code++) {
            ConferenceBridges x = written("T");
            x.type(code);
            int want = code >= '0' && code <= '9' ? NONE : code == ' ' ? 2 : 1;
            due("textFault() of T and byte " + code, x.textFault(), want);
        }
    }

    static void promise16_only_a_digit_a_blank_and_a_semicolon_can_stand_behind_a_digit() {
        for (int code = 0; code <= 255; code++) {
            ConferenceBridges x = written("T1");
            x.type(code);
            int want = code >= '0' && code <= '9' || code == ' ' ? NONE : code == ';' ? 3 : 2;
            due("textFault() of T1 and byte " + code, x.textFault(), want);
        }
    }

    static void promise16_blanks_can_stand_before_and_after_everything() {
        dueFault("   T   1   ;   L   1   2   ", NONE);
        dueFault("T1;L1 2", NONE);
        dueFault(" T1", NONE);
        dueFault("T1 ", NONE);
        dueFault("T 1", NONE);
        dueFault("T1 ;T1", NONE);
        dueFault("T1; T1", NONE);
    }

    static void promise16_blanks_part_two_numbers() {
        dueFault("L1 2", NONE);
        dueEarly("L12");
        dueFault("L123", 1);
        dueFault("L12 3", NONE);
    }

    static void promise16_the_first_of_several_faults_counts() {
        dueFault("x;y", 0);
        dueFault("T1;x;T100", 3);
        dueFault("T100;x", 1);
    }

    static void promise16_a_text_of_100_bytes_has_no_fault() {
        dueFault(fullText(), NONE);
        dueFault(" ".repeat(98) + "T1", NONE);
        dueFault("T1;".repeat(33) + "T", 100);
        dueFault("T1;".repeat(32) + "T123", 97);
        dueFault("T1;".repeat(32) + "L1 2", NONE);
    }

    static void promise16_the_hundredth_byte_can_be_the_fault() {
        dueFault("T1" + " ".repeat(97) + "x", 99);
        dueFault("T1" + " ".repeat(97) + "2", 99);
    }

    static void promise16_it_changes_nothing() {
        changesNothing(Boundaries::lively, x -> x.textFault());
        changesNothing(() -> written("T1;"), x -> x.textFault());
    }

    // ---- promise 17: run

    static void promise17_an_empty_text_is_refused() {
        refused(BAD_STATE, () -> ordered(""), x -> x.run());
    }

    static void promise17_a_text_with_a_fault_at_its_end_is_refused_whole() {
        refused(BAD_STATE, () -> ordered("L0 30;T5;"), x -> x.run());
        refused(BAD_STATE, () -> ordered("L0 30;T5;T100"), x -> x.run());
        refused(BAD_STATE, () -> ordered("L0 30;T5 x"), x -> x.run());
    }

    static void promise17_one_order_is_carried_out() {
        due("run()", ordered("T1").run(), 1);
        undoable(() -> ordered("L0 30"), x -> x.run());
    }

    /** That nothing was carried out, and that this is no error: the state is recorded. */
    private static void dueRefused(String order) {
        ConferenceBridges x = ordered(order + ";T9");
        x.leave(2);
        long before = x.digest();
        due("run() of " + order, x.run(), 0);
        due("digest() after " + order, x.digest(), before);
        due("undo() after " + order, x.undo(), 4);
        due("digest() after undo()", x.digest(), before);
        due("one more undo()", x.undo(), 3);
        due("which brings back the one that left", x.property(2, 0), 0);
    }

    static void promise17_the_first_order_returns_an_error() {
        dueRefused("L4 1");
        dueRefused("T0");
    }

    static void promise17_the_last_order_returns_an_error() {
        ConferenceBridges x = ordered("L0 30;T2;T0");
        due("run()", x.run(), 2);
        due("property(0, 2)", x.property(0, 2), 30);
        due("count(3)", x.count(3), 2);
        due("undo()", x.undo(), 4);
        due("count(3)", x.count(3), 0);
        due("property(0, 2)", x.property(0, 2), 0);
    }

    static void promise17_nothing_is_carried_out_behind_an_error() {
        ConferenceBridges x = ordered("T1;F0;T1;T1");
        due("run()", x.run(), 1);
        due("count(3)", x.count(3), 1);
    }

    static void promise17_L_with_the_levels_0_and_60_and_61() {
        ConferenceBridges x = ordered("L0 60;L1 0;L1 00;L0 61;T1");
        due("run()", x.run(), 3);
        due("property(0, 2)", x.property(0, 2), 60);
        dueRefused("L0 61");
        dueRefused("L0 99");
    }

    static void promise17_L_with_the_last_participant_and_one_behind_it_and_one_that_has_left() {
        due("run()", ordered("L3 1;L03 2").run(), 2);
        dueRefused("L4 1");
        dueRefused("L99 1");
        dueRefused("L2 1");
    }

    static void promise17_M_with_the_last_bridge_and_one_behind_it() {
        ConferenceBridges x = ordered("M0 2;M1 02");
        due("run()", x.run(), 2);
        due("property(1, 0)", x.property(1, 0), 2);
        dueRefused("M0 3");
        dueRefused("M0 99");
        dueRefused("M4 0");
        dueRefused("M2 0");
    }

    static void promise17_M_with_a_room_to_a_bridge_for_phones_only() {
        due("a phone", ordered("M0 1").run(), 1);
        dueRefused("M3 1");
    }

    static void promise17_M_to_a_full_bridge() {
        ConferenceBridges x = ordered("M0 0;M3 0");
        for (int i = 0; i < 3; i++) {
            x.join(0, 0);
        }
        due("the same bridge, then six others", x.run(), 1);
    }

    static void promise17_R_with_the_priorities_0_and_9_and_10() {
        ConferenceBridges x = ordered("R0 0;R1 9;R3 09");
        due("run()", x.run(), 3);
        due("waiting(0)", x.waiting(0), 1);
        due("waiting(2)", x.waiting(2), 0);
        dueRefused("R0 10");
        dueRefused("R4 0");
        dueRefused("R2 0");
    }

    static void promise17_R_twice() {
        due("run()", ordered("R0 5;R0 5").run(), 1);
    }

    static void promise17_T_with_0_and_1_and_99_ticks() {
        ConferenceBridges x = ordered("T1;T01;T99");
        due("run()", x.run(), 3);
        due("count(3)", x.count(3), 101);
        dueRefused("T0");
        dueRefused("T00");
    }

    static void promise17_F_with_a_request_and_without() {
        ConferenceBridges x = ordered("R0 5;F0;F0");
        due("run()", x.run(), 2);
        due("count(4)", x.count(4), 0);
        dueRefused("F0");
        dueRefused("F2");
        dueRefused("F4");
    }

    static void promise17_F_with_the_floor() {
        ConferenceBridges x = ordered("R0 5;T1;F0");
        x.setFloor(true, 1, 10, 0);
        due("run()", x.run(), 3);
        due("count(5)", x.count(5), 0);
    }

    static void promise17_U_mutes_and_unmutes() {
        ConferenceBridges x = ordered("U0;U1;U1;U3;U3;U3");
        due("run()", x.run(), 6);
        due("once", x.property(0, 3), 1);
        due("twice", x.property(1, 3), 0);
        due("three times", x.property(3, 3), 1);
    }

    static void promise17_U_without_such_a_participant() {
        dueRefused("U4");
        dueRefused("U99");
    }

    static void promise17_U_with_one_that_has_left() {
        dueRefused("U2");
        ConferenceBridges x = ordered("U2;T1");
        x.setMuted(2, true);
        x.leave(2);
        due("it was muted", x.run(), 0);
    }

    static void promise17_the_most_orders_that_a_text_can_have() {
        ConferenceBridges x = ordered("T9" + ";T9".repeat(32));
        due("run()", x.run(), 33);
        due("count(3)", x.count(3), 297);
        due("undo()", x.undo(), 4);
        due("count(3)", x.count(3), 0);
    }

    static void promise17_the_most_ticks_that_a_text_can_have() {
        ConferenceBridges x = ordered("T99" + ";T99".repeat(24));
        due("run()", x.run(), 25);
        due("count(3)", x.count(3), 2475);
    }

    /** An object is used for 512 calls: 2 to begin with, 100 for the text, 407 runs, and 3 to look. */
    static void promise17_the_most_ticks_that_an_object_can_have() {
        ConferenceBridges x = phones(1, 0);
        write(x, "T99" + ";T99".repeat(24));
        for (int run = 0; run < 407; run++) {
            x.run();
        }
        due("count(3)", x.count(3), 407 * 2475);
        due("quiet time", x.property(0, 6), 407 * 2475);
        due("the 512th call", x.count(6), 0);
    }

    static void promise17_the_hundredth_byte_belongs_to_the_last_order() {
        ConferenceBridges x = ordered("T" + " ".repeat(97) + "12");
        due("run()", x.run(), 1);
        due("count(3)", x.count(3), 12);
    }

    static void promise17_the_text_stays() {
        ConferenceBridges x = ordered("L0 9;T2");
        due("run()", x.run(), 2);
        due("run() again", x.run(), 2);
        due("count(3)", x.count(3), 4);
        due("clearText()", x.clearText(), 7);
    }

    static void promise17_the_orders_are_undone_as_one_call() {
        ConferenceBridges x = ordered("L0 9;L1 9;L3 9;T1;T1;T1;U0");
        long before = x.digest();
        due("run()", x.run(), 7);
        due("undo()", x.undo(), 4);
        due("digest()", x.digest(), before);
    }

    static void promise17_it_drops_one_state_of_a_full_history() {
        ConferenceBridges x = ordered("T1;T1;T1;T1;T1;T1;T1");
        for (int level = 1; level <= 5; level++) {
            x.setLevel(0, level);
        }
        due("run()", x.run(), 7);
        for (int left = 4; left >= 0; left--) {
            due("undo()", x.undo(), left);
        }
        due("the oldest one that is kept", x.property(0, 2), 1);
        due("undo()", x.undo(), BAD_STATE);
    }

    static void promise17_it_is_as_the_single_calls() {
        ConferenceBridges x = ordered("L0 33;L3 30;R1 4;T3;M0 2;U3;T2;F1");
        ConferenceBridges y = ordered("");
        due("run()", x.run(), 8);
        y.setLevel(0, 33);
        y.setLevel(3, 30);
        y.request(1, 4);
        y.tick(3);
        y.move(0, 2);
        y.setMuted(3, true);
        y.tick(2);
        y.giveUp(1);
        due("digest()", x.digest(), y.digest());
    }
}
