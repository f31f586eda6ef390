/** Promises 29 to 31: the script text. */
final class TextTest {
    private static final Class<IllegalArgumentException> ARGUMENT = IllegalArgumentException.class;
    private static final Class<IllegalStateException> STATE = IllegalStateException.class;

    public static void main(String[] args) {
        promise29Append();
        promise30ClearText();
        promise31Orders();
        promise31EachOrder();
        promise31SyntaxErrors();
        promise31OrdersThatThrow();
        Check.end();
    }

    private static void promise29Append() {
        VisionMixer mixer = new VisionMixer();
        Check.due("append(0)", mixer.append(0), 1);
        Check.due("append(127)", mixer.append(127), 2);
        Check.refused("append(-1)", mixer, ARGUMENT, () -> mixer.append(-1));
        Check.refused("append(128)", mixer, ARGUMENT, () -> mixer.append(128));
        for (int length = 3; length <= 120; length++) {
            Check.due("append(59)", mixer.append(59), length);
        }
        Check.refused("append(59), 120 bytes", mixer, STATE, () -> mixer.append(59));
        Check.refused("append(128), 120 bytes", mixer, ARGUMENT, () -> mixer.append(128));
    }

    private static void promise30ClearText() {
        VisionMixer mixer = new VisionMixer();
        Check.due("clearText(), no text", mixer.clearText(), 0);
        Check.write(mixer, "p3;p");
        Check.due("clearText()", mixer.clearText(), 4);
        Check.due("clearText() again", mixer.clearText(), 0);
        Check.due("the text is empty", mixer.carryOut(), 0);
        Check.due("append behind it", mixer.append('c'), 1);
        Check.due("the former text is gone", mixer.carryOut(), -10 - 1);
    }

    private static void promise31Orders() {
        VisionMixer mixer = new VisionMixer();
        Check.due("no orders", mixer.carryOut(), 0);
        Check.due("orders", Check.carried(mixer, "p3;v4;w10;k204;n3;a;w2;"), 7);
        int[] due = {3, 4, 2, 4, 3, 500, 2, 12, 5};
        for (int what = 0; what <= 8; what++) {
            Check.due("setting(" + what + ")", mixer.setting(what), due[what]);
        }
        int[][] acts = {{0, 0, 3, -1}, {0, 1, 4, -1}, {10, 2, 2, 4}, {10, 3, 3, -1}, {10, 7, -1, -1}};
        for (int act = 0; act < acts.length; act++) {
            for (int what = 0; what <= 3; what++) {
                Check.due("act(" + act + ", " + what + ")", mixer.act(act, what), acts[act][what]);
            }
        }
        Check.due("the text stays", mixer.clearText(), 23);
        Check.write(mixer, "c;");
        Check.due("carryOut()", mixer.carryOut(), 1);
        Check.due("carryOut() once more", mixer.carryOut(), 1);
        Check.due("two acts more", mixer.setting(8), 7);
        VisionMixer longest = new VisionMixer();
        Check.due("120 bytes", Check.carried(longest, "c;".repeat(60)), 60);
        Check.due("60 acts", longest.setting(8), 60);
        for (int act = 0; act < 60; act++) {
            Check.due("act(" + act + ", 1)", longest.act(act, 1), 6);
        }
    }

    private static void promise31EachOrder() {
        VisionMixer mixer = new VisionMixer();
        for (int digit = 0; digit <= 9; digit++) {
            Check.due("p" + digit, Check.carried(mixer, "p" + digit + ";v" + (9 - digit) + ";"), 2);
            Check.due("program", mixer.setting(0), digit);
            Check.due("preview", mixer.setting(1), 9 - digit);
        }
        for (int digit = 0; digit <= 7; digit++) {
            Check.due("n" + digit, Check.carried(mixer, "n" + digit + ";"), 1);
            Check.due("elements", mixer.setting(4), digit);
        }
        String[] rates = {"1", "01", "001", "99", "100", "25", "025"};
        for (String rate : rates) {
            Check.due("k1" + rate, Check.carried(mixer, "k1" + rate + ";"), 1);
            Check.due("rate", mixer.setting(3), Integer.parseInt(rate));
            Check.due("kind", mixer.setting(2), 1);
        }
        String[] positions = {"1", "0999", "7", "0000", "00", "350"};
        for (String position : positions) {
            Check.due("b" + position, Check.carried(mixer, "b" + position + ";"), 1);
            Check.due("position", mixer.setting(5), Integer.parseInt(position));
        }
        Check.due("b1000", Check.carried(mixer, "b1000;"), 1);
        Check.due("completed", mixer.setting(5), 0);
        int time = mixer.setting(7);
        Check.due("w", Check.carried(mixer, "w0;w007;w500;w000;"), 4);
        Check.due("time", mixer.setting(7), time + 507);
    }

    private static void promise31SyntaxErrors() {
        Object[][] due = {
            {"x", 0}, {";", 0}, {" p1;", 0}, {"P1;", 0}, {"1", 0}, {"\0", 0}, {"\177", 0}, {"p1; c;", 3},
            {"p", 1}, {"p;", 1}, {"px;", 1}, {"p1", 2}, {"p12;", 2}, {"p1;;", 3}, {"p1;p", 4}, {"p1;p1", 5},
            {"v", 1}, {"v/;", 1}, {"v:;", 1}, {"v1v", 2},
            {"k", 1}, {"k3", 1}, {"k3;", 1}, {"k;", 1}, {"k2", 2}, {"k2;", 2}, {"k2x", 2}, {"k21", 3}, {"k21x", 3},
            {"k20", 2}, {"k20;", 2}, {"k20x", 2}, {"k000;", 2}, {"k0000;", 2}, {"k0101;", 2}, {"k0101", 2},
            {"k0101x", 2}, {"k0999c", 2}, {"k00001;", 5}, {"k01000;", 5}, {"k0100", 5}, {"k01001", 5}, {"k0100p", 5},
            {"n", 1}, {"n8;", 1}, {"n9", 1}, {"n;", 1}, {"n7", 2}, {"n71;", 2},
            {"c", 1}, {"c1;", 1}, {"cc;", 1}, {"a", 1}, {"a0;", 1}, {"c;a", 3},
            {"b", 1}, {"b;", 1}, {"bx", 1}, {"b1001;", 1}, {"b1001", 1}, {"b1001x", 1}, {"b9999;", 1},
            {"b10000;", 5}, {"b00000;", 5}, {"b1000", 5}, {"b1000x", 5}, {"b99999", 5}, {"b-1;", 1},
            {"w", 1}, {"w;", 1}, {"w1", 2}, {"w1000;", 4}, {"w999", 4}, {"w12x", 3}, {"wx", 1},
            {"c;c;k0101;x", 6}, {"c;x;k0101;", 2}, {"c;b1001;k0101;", 3},
        };
        for (Object[] row : due) {
            VisionMixer mixer = new VisionMixer();
            String text = (String) row[0];
            Check.write(mixer, text);
            long digest = mixer.digest();
            Check.due("carryOut() of " + text, mixer.carryOut(), -10 - (Integer) row[1]);
            Check.due("digest() behind " + text, mixer.digest(), digest);
        }
        VisionMixer longest = new VisionMixer();
        Check.due("an error at the end of 120 bytes", Check.carried(longest, "c;".repeat(59) + "p1"), -10 - 120);
    }

    private static void promise31OrdersThatThrow() {
        Object[][] due = {
            {"w501;", 0}, {"w999;", 0}, {"p5;w501;c;", 1}, {"a;a;", 1}, {"p5;a;w1;n3;", 3}, {"b1;n3;", 1},
            {"b1;a;", 1}, {"a;b1;", 1}, {"a;b1000;", 1}, {"p5;v6;k150;n7;w20;c;b3;a;", 7},
        };
        for (Object[] row : due) {
            VisionMixer mixer = new VisionMixer();
            mixer.toggle(0);
            mixer.pass(20);
            mixer.auto();
            mixer.pass(25);
            Check.write(mixer, (String) row[0]);
            long digest = mixer.digest();
            Check.due("carryOut() of " + row[0], mixer.carryOut(), -1000 - (Integer) row[1]);
            Check.due("digest() behind " + row[0], mixer.digest(), digest);
            Check.due("runs() behind " + row[0], mixer.runs(), 1);
        }
        VisionMixer mixer = new VisionMixer();
        Check.due("a syntax error comes first", Check.carried(mixer, "w501;x"), -10 - 5);
        VisionMixer late = new VisionMixer();
        Check.due("to 4500", Check.carried(late, "w500;".repeat(9)), 9);
        Check.due("to 5001", Check.carried(late, "p7;w500;w1;"), -1002);
        Check.due("nothing is changed", late.setting(7) + late.setting(8), 4500);
        Check.due("to 5000", Check.carried(late, "p7;w500;w0;"), 3);
        VisionMixer full = Check.fullMixer();
        Check.due("full", Check.carried(full, "w5;c;"), -1001);
        Check.due("full, no act", Check.carried(full, "w5;w6;"), 2);
        full.undo();
        Check.due("full behind one act", Check.carried(full, "p3;p4;"), -1001);
        Check.due("the log behind it", full.setting(8), 99);
        Check.due("room for one act", Check.carried(full, "p3;"), 1);
        Check.due("the act", full.act(99, 2), 3);
    }
}
