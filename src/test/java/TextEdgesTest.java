/** The edges that the document's section "Script text" names: promises 29, 30 and 31. */
final class TextEdgesTest {
    private static final String DIGITS = "0123456789";
    private static final String ORDERS = "pvkncabw";

    public static void main(String[] args) {
        textOf0To120Bytes();
        clearTextOf0And120Bytes();
        everyByteAtEveryPlace();
        theEndAtEveryPlace();
        aDigitTooMany();
        everyRate();
        everyPosition();
        everyNumberOfFrames();
        aNumberOutOfRangeIsFoundBehindIt();
        theFirstErrorCounts();
        syntaxErrorsAtTheFirstAndTheLastPlace();
        noOrdersAndTheMostOrders();
        theFirstAndTheLastOrderThrows();
        thrownByTheHundredAndFirstAct();
        thrownByATimeAbove5000();
        thrownUnderWay();
        ifOneThrowsNothingIsChanged();
        aSyntaxErrorChangesNothing();
        asByTheMethods();
        theTextStaysAsItIs();
        nothingIsLeftOfAFormerText();
        Check.end();
    }

    private static int carried(String text) {
        return Check.carried(new VisionMixer(), text);
    }

    /** "The text has at most 120 bytes." */
    private static void textOf0To120Bytes() {
        VisionMixer mixer = new VisionMixer();
        for (int length = 1; length <= 120; length++) {
            Check.due("append(), byte " + length, mixer.append(length % 2 == 1 ? 'c' : ';'), length);
        }
        Check.dueText("append(), byte 121", Check.outcome(() -> mixer.append('c')), "IllegalStateException");
        Check.due("carryOut() of 120 bytes", mixer.carryOut(), 60);
        Check.due("clearText()", mixer.clearText(), 120);
        Check.due("append() then", mixer.append('c'), 1);
        for (int value = 0; value <= 127; value++) {
            Check.due("append(" + value + ")", new VisionMixer().append(value), 1);
        }
    }

    private static void clearTextOf0And120Bytes() {
        VisionMixer mixer = new VisionMixer();
        Check.due("clearText(), empty", mixer.clearText(), 0);
        mixer.append(0);
        Check.due("clearText() of one byte", mixer.clearText(), 1);
        Check.due("clearText(), empty again", mixer.clearText(), 0);
        Check.due("clearText() of 119 bytes", Twins.withText(119).clearText(), 119);
        Check.due("clearText() of 120 bytes", Twins.withText(120).clearText(), 120);
        VisionMixer undone = Twins.withText(120);
        undone.clearText();
        Twins.alike("clearText()", undone, Twins.withText(0));
    }

    /** "the index of the first byte that cannot stand where it stands": all 128 bytes behind what may stand before. */
    private static void everyByteAtEveryPlace() {
        String[][] rows = {
            {"", ORDERS}, {"c;", ORDERS}, {"w100;p1;", ORDERS},
            {"p", DIGITS}, {"p0", ";"}, {"p9", ";"}, {"v", DIGITS}, {"v0", ";"}, {"v9", ";"},
            {"k", "012"}, {"k0", DIGITS}, {"k2", DIGITS}, {"k01", DIGITS + ";"}, {"k199", DIGITS + ";"},
            {"k210", DIGITS + ";"}, {"k0100", ";"}, {"k0001", ";"}, {"k0099", ";"},
            {"n", "01234567"}, {"n0", ";"}, {"n7", ";"}, {"c", ";"}, {"a", ";"},
            {"b", DIGITS}, {"b0", DIGITS + ";"}, {"b99", DIGITS + ";"}, {"b999", DIGITS + ";"}, {"b1000", ";"},
            {"b0000", ";"}, {"b0999", ";"}, {"w", DIGITS}, {"w0", DIGITS + ";"}, {"w99", DIGITS + ";"},
            {"w999", ";"}, {"w000", ";"},
        };
        for (String[] row : rows) {
            for (int value = 0; value <= 127; value++) {
                VisionMixer mixer = new VisionMixer();
                Check.write(mixer, row[0]);
                mixer.append(value);
                // so that no rate 0 stands at the end, which would be out of range
                mixer.append('1');
                int answer = mixer.carryOut();
                String call = "carryOut() of " + row[0] + ", byte " + value + " and 1";
                if (row[1].indexOf(value) < 0) {
                    Check.due(call, answer, -10 - row[0].length());
                } else {
                    Check.due(call + " is not its error", answer == -10 - row[0].length() ? 1 : 0, 0);
                }
            }
        }
    }

    /** "or the length of the text if the text ends too early" */
    private static void theEndAtEveryPlace() {
        String[] tooEarly = {
            "p", "p0", "v", "v9", "k", "k0", "k01", "k0100", "k210", "k001", "k0001", "n", "n7", "c", "a", "b", "b0",
            "b000", "b0000", "b1000", "b999", "w", "w0", "w00", "w500", "w501", "w999",
        };
        for (String text : tooEarly) {
            Check.due("carryOut() of " + text, carried(text), -10 - text.length());
            Check.due("carryOut() of c;" + text, carried("c;" + text), -12 - text.length());
            Check.due("carryOut() of w501;" + text, carried("w501;" + text), -15 - text.length());
        }
        String[] whole = {"p0;", "v9;", "k01;", "k0100;", "n7;", "c;", "a;", "b0;", "b0000;", "b1000;", "w0;", "w500;"};
        for (String text : whole) {
            Check.due("carryOut() of " + text, carried(text), 1);
        }
    }

    /** "(a digit too many, too)": also when the number before it is out of range. */
    private static void aDigitTooMany() {
        String[] texts = {
            "p00", "p12", "v00", "n00", "n77", "k00001", "k01000", "k00250", "k09999", "k11010", "b00000", "b00001",
            "b10000", "b10010", "b99999", "w0000", "w0001", "w1000", "w9999", "c0", "a1",
        };
        for (String text : texts) {
            Check.due("carryOut() of " + text, carried(text), -10 - (text.length() - 1));
            Check.due("carryOut() of " + text + ";", carried(text + ";"), -10 - (text.length() - 1));
            Check.due("carryOut() of c;" + text + "0;", carried("c;" + text + "0;"), -10 - (text.length() + 1));
        }
    }

    /** "a rate of one to three digits": each number, with each number of digits that holds it. */
    private static void everyRate() {
        for (int digits = 1; digits <= 3; digits++) {
            for (int rate = 0; rate < power(digits); rate++) {
                VisionMixer mixer = new VisionMixer();
                String text = "k2" + padded(rate, digits) + ";";
                boolean inRange = rate >= 1 && rate <= 100;
                Check.due("carryOut() of " + text, Check.carried(mixer, text), inRange ? 1 : -10 - 2);
                Check.due("the rate behind " + text, mixer.setting(3), inRange ? rate : 25);
                Check.due("the kind behind " + text, mixer.setting(2), inRange ? 2 : 0);
            }
        }
    }

    private static void everyPosition() {
        for (int digits = 1; digits <= 4; digits++) {
            for (int position = 0; position < power(digits); position++) {
                VisionMixer mixer = new VisionMixer();
                String text = "b" + padded(position, digits) + ";";
                boolean inRange = position <= 1000;
                Check.due("carryOut() of " + text, Check.carried(mixer, text), inRange ? 1 : -10 - 1);
                Check.due("the position behind " + text, mixer.setting(5), position < 1000 ? position : 0);
                Check.due("the program behind " + text, mixer.setting(0), position == 1000 ? 2 : 1);
            }
        }
    }

    /** "(above 500 this is no syntax error, but the order throws)" */
    private static void everyNumberOfFrames() {
        for (int digits = 1; digits <= 3; digits++) {
            for (int frames = 0; frames < power(digits); frames++) {
                VisionMixer mixer = new VisionMixer();
                String text = "w" + padded(frames, digits) + ";";
                boolean possible = frames <= 500;
                Check.due("carryOut() of " + text, Check.carried(mixer, text), possible ? 1 : -1000);
                Check.due("the time behind " + text, mixer.setting(7), possible ? frames : 0);
            }
        }
    }

    private static int power(int digits) {
        int power = 1;
        for (int i = 0; i < digits; i++) {
            power *= 10;
        }
        return power;
    }

    private static String padded(int number, int digits) {
        String text = Integer.toString(number);
        return "0".repeat(digits - text.length()) + text;
    }

    /** "found when a byte that is no digit, whichever it is, or the end of the text, follows it" */
    private static void aNumberOutOfRangeIsFoundBehindIt() {
        String[] numbers = {"k00", "k000", "k0000", "k2101", "k1999", "k0200", "b1001", "b9999", "b1100", "b2000"};
        for (String number : numbers) {
            int firstDigit = number.charAt(0) == 'k' ? 2 : 1;
            Check.due("carryOut() of " + number, carried(number), -10 - firstDigit);
            Check.due("carryOut() of c;" + number, carried("c;" + number), -12 - firstDigit);
            for (int value = 0; value <= 127; value++) {
                if (value < '0' || value > '9') {
                    Check.due("carryOut() of " + number + " and byte " + value, carried(number + (char) value),
                        -10 - firstDigit);
                }
            }
        }
        Check.due("a zero that may become a rate", carried("k0"), -10 - 2);
        Check.due("a zero that becomes a rate", carried("k001;"), 1);
        Check.due("zeros that become a rate", carried("k0001;"), 1);
        Check.due("a number in range, then a wrong byte", carried("k0100p"), -10 - 5);
        Check.due("a position in range, then a wrong byte", carried("b1000p"), -10 - 5);
    }

    private static void theFirstErrorCounts() {
        Check.due("a wrong byte before a wrong rate", carried("c;x;k0101;"), -10 - 2);
        Check.due("a wrong rate before a wrong byte", carried("c;k0101;x"), -10 - 4);
        Check.due("a wrong rate before the end", carried("k00"), -10 - 2);
        Check.due("two wrong rates", carried("k1000;k20;"), -10 - 2);
        Check.due("a wrong byte before the end", carried("p;v"), -10 - 1);
        Check.due("two semicolons", carried("c;;"), -10 - 2);
        Check.due("a semicolon alone", carried(";"), -10);
        Check.due("a space before", carried(" c;"), -10);
        Check.due("a space between", carried("c; c;"), -10 - 2);
        Check.due("a space within", carried("p 1;"), -10 - 1);
        Check.due("a space behind", carried("c; "), -10 - 2);
        Check.due("a capital", carried("C;"), -10);
        Check.due("a sign before a number", carried("b+1;"), -10 - 1);
    }

    /** "-10 minus the syntax error position": from 0 to the length of a full text. */
    private static void syntaxErrorsAtTheFirstAndTheLastPlace() {
        String cuts = "c;".repeat(58);
        Check.due("the first byte", carried("x" + cuts + "c;"), -10);
        Check.due("byte 118", carried(cuts + "c;x;"), -10 - 118);
        Check.due("byte 119, the last", carried(cuts + "c;cc"), -10 - 119);
        Check.due("the end of 120 bytes", carried(cuts + "p1;c"), -10 - 120);
        Check.due("the end of 119 bytes", carried(cuts + "c;c"), -10 - 119);
        Check.due("no error in 120 bytes", carried(cuts + "c;c;"), 60);
        Check.due("a rate behind 120 bytes", carried(cuts + "k101"), -10 - 120);
        Check.due("a rate out of range there", carried(cuts + "k100"), -10 - 118);
        Check.due("the first of one byte", carried("1"), -10);
        Check.due("the end of one byte", carried("c"), -11);
    }

    private static void noOrdersAndTheMostOrders() {
        VisionMixer mixer = new VisionMixer();
        Check.due("carryOut(), no text", mixer.carryOut(), 0);
        Check.due("no acts", mixer.setting(8), 0);
        Check.due("carryOut() of one order", Check.carried(mixer, "a;"), 1);
        Check.due("carryOut() of 60 orders", Check.carried(mixer, "c;".repeat(60)), 60);
        Check.due("61 acts", mixer.setting(8), 61);
        mixer.clearText();
        Check.due("carryOut(), the text is cleared", mixer.carryOut(), 0);
        Check.due("61 acts still", mixer.setting(8), 61);
    }

    /** "-1000 minus the index of the first order (from 0) that would throw an exception" */
    private static void theFirstAndTheLastOrderThrows() {
        Check.due("the first", carried("w501;c;"), -1000);
        Check.due("the only one", carried("w999;"), -1000);
        Check.due("the second", carried("a;a;a;"), -1001);
        Check.due("the last of 60", carried("c;".repeat(58) + "a;a;"), -1059);
        Check.due("none of 60", carried("c;".repeat(58) + "a;c;"), 60);
        Check.due("two that throw", carried("p1;w501;w501;"), -1001);
        Check.due("a syntax error behind one that throws", carried("w501;k00;"), -10 - 7);
    }

    private static void thrownByTheHundredAndFirstAct() {
        String[] orders = {"p1;", "v1;", "k01;", "n1;", "c;", "a;", "b1;", "b1000;"};
        for (String order : orders) {
            VisionMixer mixer = Twins.withActs(99);
            Check.due("the hundredth act: " + order, Check.carried(mixer, order), 1);
            Check.due("setting(8)", mixer.setting(8), 100);
            Check.due("one act too many: " + order, Check.carried(Twins.fullLog(), order), -1000);
            int behindOne = Check.carried(Twins.withActs(99), "c;w1;" + order);
            Check.due("one act too many behind one: " + order, behindOne, -1002);
        }
        Check.due("frames with a full log", Check.carried(Twins.fullLog(), "w1;w500;"), 2);
        Check.due("60 acts for 40", Check.carried(Twins.withActs(40), "c;".repeat(60)), 60);
        Check.due("60 acts for 41", Check.carried(Twins.withActs(41), "c;".repeat(60)), -1059);
        Check.due("60 acts for 99", Check.carried(Twins.withActs(99), "c;".repeat(60)), -1001);
    }

    private static void thrownByATimeAbove5000() {
        Check.due("to 5000", Check.carried(Twins.atTime(4500), "w500;"), 1);
        Check.due("to 5001", Check.carried(Twins.atTime(4501), "w500;"), -1000);
        Check.due("to 5000, then none", Check.carried(Twins.atTime(4990), "w9;w1;w0;"), 3);
        Check.due("to 5000, then one", Check.carried(Twins.atTime(4990), "w9;w1;w0;w1;"), -1003);
        Check.due("no frames at 5000", Check.carried(Twins.atTime(5000), "w0;c;"), 2);
    }

    private static void thrownUnderWay() {
        Check.due("next() at position 1", carried("b1;n1;"), -1001);
        Check.due("auto() at position 1", carried("b1;a;"), -1001);
        Check.due("next() at position 0", carried("b1;b0;n1;"), 3);
        Check.due("auto() at position 0", carried("b1;b0;a;"), 3);
        Check.due("next() behind bar(1000)", carried("b1000;n1;"), 2);
        Check.due("next() in a run", carried("a;n1;"), -1001);
        Check.due("auto() in a run", carried("a;a;"), -1001);
        Check.due("bar() in a run", carried("a;b0;"), -1001);
        Check.due("bar(1000) in a run", carried("a;b1000;"), -1001);
        Check.due("the frame before its end", carried("k05;a;w4;b1;"), -1003);
        Check.due("its end", carried("k05;a;w5;b1;"), 4);
        Check.due("behind a cut", carried("a;c;n1;a;c;b1;"), 6);
    }

    /** "If one of them would throw an exception, nothing is changed." */
    private static void ifOneThrowsNothingIsChanged() {
        Twins.Maker[] makers = {
            VisionMixer::new, Twins::byHand, Twins::inRun, Twins::fullLog, () -> Twins.withActs(96),
            () -> Twins.atTime(4997),
        };
        String[] texts = {
            "w501;", "p9;v8;k233;w501;", "w9;c;n6;b1000;w7;a;w30;b999;a;", "c;c;c;c;c;w4;w999;",
            "w2;c;p5;w2;w2;v1;a;a;",
        };
        for (Twins.Maker maker : makers) {
            for (String text : texts) {
                VisionMixer mixer = maker.make();
                VisionMixer twin = maker.make();
                Check.write(twin, text);
                int answer = Check.carried(mixer, text);
                Check.due("carryOut() of " + text + " throws", answer <= -1000 ? 1 : 0, 1);
                Twins.alike("behind carryOut() of " + text, mixer, twin);
            }
        }
    }

    private static void aSyntaxErrorChangesNothing() {
        for (String text : new String[] {"p9;w3;c;x", "p9;w3;c;k0101;", "p9;w3;c", "x", "w3;;"}) {
            VisionMixer mixer = Twins.byHand();
            VisionMixer twin = Twins.byHand();
            Check.write(twin, text);
            int answer = Check.carried(mixer, text);
            Check.due("carryOut() of " + text, answer <= -10 && answer >= -130 ? 1 : 0, 1);
            Twins.alike("behind carryOut() of " + text, mixer, twin);
        }
    }

    /** "Carries out the orders of the text one after the other, as by the methods, each with its place in the log." */
    private static void asByTheMethods() {
        VisionMixer mixer = new VisionMixer();
        String text = "p0;v9;w7;k0100;n7;w500;a;w99;c;b0;b999;k21;w0;b1000;n0;k1007;";
        Check.due("carryOut()", Check.carried(mixer, text), 16);
        VisionMixer twin = new VisionMixer();
        twin.program(0);
        twin.preview(9);
        twin.pass(7);
        twin.transition(0, 100);
        twin.next(7);
        twin.pass(500);
        twin.auto();
        twin.pass(99);
        twin.cut();
        twin.bar(0);
        twin.bar(999);
        twin.transition(2, 1);
        twin.bar(1000);
        twin.next(0);
        twin.transition(1, 7);
        int[] times = {0, 0, 7, 7, 507, 606, 606, 606, 606, 606, 606, 606};
        Check.due("setting(8)", mixer.setting(8), times.length);
        for (int act = 0; act < times.length; act++) {
            Check.due("act(" + act + ", 0)", mixer.act(act, 0), times[act]);
        }
        mixer.clearText();
        Twins.alike("orders and calls", mixer, twin);
    }

    private static void theTextStaysAsItIs() {
        int[] due = {1, -12, -1000, 0};
        String[] texts = {"v3;", "v3", "w501;", ""};
        for (int i = 0; i < texts.length; i++) {
            VisionMixer mixer = new VisionMixer();
            Check.write(mixer, texts[i]);
            for (int times = 0; times < 3; times++) {
                Check.due("carryOut() of " + texts[i], mixer.carryOut(), due[i]);
            }
            Check.due("acts", mixer.setting(8), i == 0 ? 3 : 0);
            Check.due("clearText()", mixer.clearText(), texts[i].length());
        }
    }

    /** A text ends at its length, also where a longer one stood before it. */
    private static void nothingIsLeftOfAFormerText() {
        String[] texts = {"c;", "p5;", "k2100;", "b1000;", "w500;", "c;a;"};
        for (String text : texts) {
            for (int length = 0; length < text.length(); length++) {
                VisionMixer mixer = new VisionMixer();
                Check.write(mixer, text);
                Check.due("clearText()", mixer.clearText(), text.length());
                Check.write(mixer, text.substring(0, length));
                int fresh = carried(text.substring(0, length));
                String call = text.substring(0, length) + " behind " + text;
                Check.due("carryOut() of " + call, mixer.carryOut(), fresh);
                boolean whole = length == 0 || text.charAt(length - 1) == ';';
                Check.due("an error in " + call, fresh < 0 ? 1 : 0, whole ? 0 : 1);
            }
        }
    }
}
