/**
 * Every "Throws" line of the document: the value just outside (and the farthest one) is refused with the exception
 * that is listed first, and the call changes nothing; the value just inside is taken.
 */
final class RefusedTest {
    private static final int[] NO_SOURCES = {-1, 10, Twins.MIN, Twins.MAX};
    private static final int[] NO_KEYERS = {-1, 3, Twins.MIN, Twins.MAX};
    private static final Twins.Maker[] ANY_STATE = {
        VisionMixer::new, Twins::byHand, Twins::inRun, Twins::fullLog, Twins::fullLogInRun,
    };

    public static void main(String[] args) {
        promise2Program();
        promise3Preview();
        promise4Transition();
        promise5Next();
        promise6KeyIndex();
        promise6KeyArgument();
        promise7Toggle();
        promise8Cut();
        promise9Auto();
        promise10Bar();
        promise11Fault();
        promise12Pass();
        promise13Setting();
        promise14Keyer();
        promises15And16ShareAndTally();
        promise18SettingAt();
        promise19ShareAt();
        promises20And21TimesRedAndFirstRed();
        promise24Act();
        promises25And27TakeOutAndRedWithout();
        promise26Undo();
        promise29Append();
        Check.end();
    }

    /** In whatever state: so also when there are 100 acts, or a transition is under way (listed behind it). */
    private static void always(String call, Class<? extends RuntimeException> due, Twins.Call made) {
        for (int i = 0; i < ANY_STATE.length; i++) {
            Twins.refused(call + " in state " + i, ANY_STATE[i], due, made);
        }
    }

    /** "IllegalStateException if there are 100 acts in the log": the hundredth act is taken, one more is not. */
    private static void hundredActs(String call, int what, Twins.Call made) {
        VisionMixer mixer = Twins.withActs(99);
        made.on(mixer);
        Check.due("setting(8) behind the hundredth: " + call, mixer.setting(8), 100);
        Check.due("act(99, 1) behind " + call, mixer.act(99, 1), what);
        Twins.refused(call + " with 100 acts", Twins::fullLog, Twins.STATE, made);
        VisionMixer again = Twins.fullLog();
        again.takeOut(0);
        made.on(again);
        Check.due("setting(8) behind takeOut() and " + call, again.setting(8), 100);
    }

    private static void promise2Program() {
        for (int source : NO_SOURCES) {
            always("program(" + source + ")", Twins.INDEX, mixer -> mixer.program(source));
        }
        hundredActs("program(9)", 0, mixer -> mixer.program(9));
        hundredActs("program(0)", 0, mixer -> mixer.program(0));
    }

    private static void promise3Preview() {
        for (int source : NO_SOURCES) {
            always("preview(" + source + ")", Twins.INDEX, mixer -> mixer.preview(source));
        }
        hundredActs("preview(9)", 1, mixer -> mixer.preview(9));
        hundredActs("preview(0)", 1, mixer -> mixer.preview(0));
    }

    private static void promise4Transition() {
        int[][] wrong = {
            {-1, 1}, {3, 1}, {Twins.MIN, 50}, {Twins.MAX, 50}, {0, 0}, {2, 101}, {1, Twins.MIN}, {1, Twins.MAX},
            {0, -1}, {-1, 0}, {3, 101},
        };
        for (int[] row : wrong) {
            always("transition(" + row[0] + ", " + row[1] + ")", Twins.ARGUMENT,
                mixer -> mixer.transition(row[0], row[1]));
        }
        hundredActs("transition(0, 1)", 2, mixer -> mixer.transition(0, 1));
        hundredActs("transition(2, 100)", 2, mixer -> mixer.transition(2, 100));
    }

    private static void promise5Next() {
        for (int elements : new int[] {-1, 16, Twins.MIN, Twins.MAX}) {
            always("next(" + elements + ")", Twins.ARGUMENT, mixer -> mixer.next(elements));
        }
        hundredActs("next(0)", 3, mixer -> mixer.next(0));
        hundredActs("next(15)", 3, mixer -> mixer.next(15));
        Twins.refused("next(1) at position 250", Twins::byHand, Twins.STATE, mixer -> mixer.next(1));
        Twins.refused("next(1) in a run", Twins::inRun, Twins.STATE, mixer -> mixer.next(1));
        Twins.refused("next(1) at position 1", () -> atPosition(1), Twins.STATE, mixer -> mixer.next(1));
        Twins.refused("next(1) in a run of 0 frames", RefusedTest::justBegun, Twins.STATE, mixer -> mixer.next(1));
        Twins.refused("next(1), full and in a run", Twins::fullLogInRun, Twins.STATE, mixer -> mixer.next(1));
        Check.due("next(6) at position 0", atPosition(0).next(6), 1);
    }

    private static VisionMixer atPosition(int position) {
        VisionMixer mixer = new VisionMixer();
        mixer.bar(500);
        mixer.bar(position);
        return mixer;
    }

    private static VisionMixer justBegun() {
        VisionMixer mixer = new VisionMixer();
        mixer.auto();
        return mixer;
    }

    private static void promise6KeyIndex() {
        for (int no : NO_KEYERS) {
            always("key(" + no + ", 0, 0, 1)", Twins.INDEX, mixer -> mixer.key(no, 0, 0, 1));
            always("key(" + no + ", 10, -1, 0)", Twins.INDEX, mixer -> mixer.key(no, 10, -1, 0));
            always("key(" + no + ", 0, 101, 1)", Twins.INDEX, mixer -> mixer.key(no, 0, 101, 1));
        }
        for (int no : NO_SOURCES) {
            always("key(2, " + no + ", 100, 100)", Twins.INDEX, mixer -> mixer.key(2, no, 100, 100));
            always("key(2, " + no + ", 101, 100)", Twins.INDEX, mixer -> mixer.key(2, no, 101, 100));
            always("key(2, " + no + ", 100, 0)", Twins.INDEX, mixer -> mixer.key(2, no, 100, 0));
        }
    }

    private static void promise6KeyArgument() {
        for (int no : new int[] {-1, 101, Twins.MIN, Twins.MAX}) {
            always("key(0, 0, " + no + ", 1)", Twins.ARGUMENT, mixer -> mixer.key(0, 0, no, 1));
        }
        for (int no : new int[] {0, -1, 101, Twins.MIN, Twins.MAX}) {
            always("key(2, 9, 100, " + no + ")", Twins.ARGUMENT, mixer -> mixer.key(2, 9, 100, no));
        }
        hundredActs("key(0, 0, 0, 1)", 4, mixer -> mixer.key(0, 0, 0, 1));
        hundredActs("key(2, 9, 100, 100)", 4, mixer -> mixer.key(2, 9, 100, 100));
    }

    private static void promise7Toggle() {
        for (int keyer : NO_KEYERS) {
            always("toggle(" + keyer + ")", Twins.INDEX, mixer -> mixer.toggle(keyer));
        }
        hundredActs("toggle(0)", 5, mixer -> mixer.toggle(0));
        hundredActs("toggle(2)", 5, mixer -> mixer.toggle(2));
    }

    private static void promise8Cut() {
        hundredActs("cut()", 6, VisionMixer::cut);
        Twins.refused("cut(), full and in a run", Twins::fullLogInRun, Twins.STATE, VisionMixer::cut);
    }

    private static void promise9Auto() {
        hundredActs("auto()", 7, VisionMixer::auto);
        Twins.refused("auto() at position 250", Twins::byHand, Twins.STATE, VisionMixer::auto);
        Twins.refused("auto() in a run", Twins::inRun, Twins.STATE, VisionMixer::auto);
        Twins.refused("auto() at position 1", () -> atPosition(1), Twins.STATE, VisionMixer::auto);
        Twins.refused("auto() in a run of 0 frames", RefusedTest::justBegun, Twins.STATE, VisionMixer::auto);
        Twins.refused("auto(), full and in a run", Twins::fullLogInRun, Twins.STATE, VisionMixer::auto);
        Check.due("auto() at position 0", atPosition(0).auto(), 25);
    }

    private static void promise10Bar() {
        for (int position : new int[] {-1, 1001, Twins.MIN, Twins.MAX}) {
            always("bar(" + position + ")", Twins.ARGUMENT, mixer -> mixer.bar(position));
        }
        hundredActs("bar(0)", 8, mixer -> mixer.bar(0));
        hundredActs("bar(1000)", 8, mixer -> mixer.bar(1000));
        for (int position : new int[] {0, 444, 1000}) {
            Twins.refused("bar() in a run", Twins::inRun, Twins.STATE, mixer -> mixer.bar(position));
            Twins.refused("bar() in a run of 0 frames", RefusedTest::justBegun, Twins.STATE,
                mixer -> mixer.bar(position));
            Twins.refused("bar(), full and in a run", Twins::fullLogInRun, Twins.STATE, mixer -> mixer.bar(position));
        }
        Check.due("bar(1) under way by hand", atPosition(1).bar(1), 1);
    }

    private static void promise11Fault() {
        for (int source : new int[] {0, -1, 10, Twins.MIN, Twins.MAX}) {
            always("fault(" + source + ", true)", Twins.INDEX, mixer -> mixer.fault(source, true));
            always("fault(" + source + ", false)", Twins.INDEX, mixer -> mixer.fault(source, false));
        }
        hundredActs("fault(1, true)", 9, mixer -> mixer.fault(1, true));
        hundredActs("fault(9, false)", 9, mixer -> mixer.fault(9, false));
    }

    private static void promise12Pass() {
        for (int frames : new int[] {-1, 501, Twins.MIN, Twins.MAX}) {
            always("pass(" + frames + ")", Twins.ARGUMENT, mixer -> mixer.pass(frames));
            Twins.refused("pass(" + frames + ") at 5000", () -> Twins.atTime(5000), Twins.ARGUMENT,
                mixer -> mixer.pass(frames));
        }
        int[][] fits = {{4500, 500}, {4501, 499}, {4999, 1}, {5000, 0}, {4999, 0}};
        for (int[] row : fits) {
            VisionMixer mixer = Twins.atTime(row[0]);
            Check.due("pass(" + row[1] + ") at " + row[0], mixer.pass(row[1]), row[0] + row[1]);
            Check.due("setting(7) then", mixer.setting(7), row[0] + row[1]);
        }
        int[][] tooFar = {{4501, 500}, {4999, 2}, {5000, 1}, {5000, 500}};
        for (int[] row : tooFar) {
            Twins.refused("pass(" + row[1] + ") at " + row[0], () -> Twins.atTime(row[0]), Twins.STATE,
                mixer -> mixer.pass(row[1]));
        }
    }

    private static void promise13Setting() {
        for (int what : new int[] {-1, 9, Twins.MIN, Twins.MAX}) {
            always("setting(" + what + ")", Twins.ARGUMENT, mixer -> mixer.setting(what));
        }
        Check.due("setting(0)", Twins.fullLog().setting(0), 1);
        Check.due("setting(8)", Twins.fullLog().setting(8), 100);
    }

    private static void promise14Keyer() {
        for (int keyer : NO_KEYERS) {
            always("keyer(" + keyer + ", 0)", Twins.INDEX, mixer -> mixer.keyer(keyer, 0));
            always("keyer(" + keyer + ", 4)", Twins.INDEX, mixer -> mixer.keyer(keyer, 4));
        }
        for (int what : new int[] {-1, 4, Twins.MIN, Twins.MAX}) {
            always("keyer(0, " + what + ")", Twins.ARGUMENT, mixer -> mixer.keyer(0, what));
            always("keyer(2, " + what + ")", Twins.ARGUMENT, mixer -> mixer.keyer(2, what));
        }
        Check.due("keyer(0, 0)", Twins.fullLog().keyer(0, 0), 4);
        Check.due("keyer(0, 3)", Twins.fullLog().keyer(0, 3), 1);
        Check.due("keyer(2, 0)", Twins.fullLog().keyer(2, 0), 5);
        Check.due("keyer(2, 3)", Twins.fullLog().keyer(2, 3), 0);
    }

    private static void promises15And16ShareAndTally() {
        for (int source : NO_SOURCES) {
            always("share(" + source + ", false)", Twins.INDEX, mixer -> mixer.share(source, false));
            always("share(" + source + ", true)", Twins.INDEX, mixer -> mixer.share(source, true));
            always("tally(" + source + ")", Twins.INDEX, mixer -> mixer.tally(source));
        }
        for (int source : new int[] {0, 9}) {
            VisionMixer mixer = new VisionMixer();
            mixer.program(source);
            Check.due("share(" + source + ", false)", mixer.share(source, false), 1000000);
            Check.due("share(" + source + ", true)", mixer.share(source, true), 1000000);
            Check.due("tally(" + source + ")", mixer.tally(source), 2);
        }
    }

    private static void promise18SettingAt() {
        int now = Twins.byHand().setting(7);
        for (int time : new int[] {-1, now + 1, Twins.MIN, Twins.MAX}) {
            for (int what : new int[] {0, -1, 7}) {
                Twins.refused("settingAt(" + time + ", " + what + ")", Twins::byHand, Twins.INDEX,
                    mixer -> mixer.settingAt(time, what));
            }
        }
        for (int what : new int[] {-1, 7, 8, Twins.MIN, Twins.MAX}) {
            always("settingAt(0, " + what + ")", Twins.ARGUMENT, mixer -> mixer.settingAt(0, what));
            Twins.refused("settingAt(now, " + what + ")", Twins::byHand, Twins.ARGUMENT,
                mixer -> mixer.settingAt(now, what));
        }
        Twins.refused("settingAt(1, 0) of a new one", VisionMixer::new, Twins.INDEX, mixer -> mixer.settingAt(1, 0));
        Check.due("settingAt(0, 0)", Twins.byHand().settingAt(0, 0), 6);
        Check.due("settingAt(0, 6)", Twins.byHand().settingAt(0, 6), -1);
        Check.due("settingAt(now, 5)", Twins.byHand().settingAt(now, 5), 250);
        Check.due("settingAt(5000, 0)", Twins.atTime(5000).settingAt(5000, 3), 100);
        Twins.refused("settingAt(5001, 0)", () -> Twins.atTime(5000), Twins.INDEX, mixer -> mixer.settingAt(5001, 0));
    }

    private static void promise19ShareAt() {
        int now = Twins.byHand().setting(7);
        for (int time : new int[] {-1, now + 1, Twins.MIN, Twins.MAX}) {
            Twins.refused("shareAt(" + time + ", 0)", Twins::byHand, Twins.INDEX, mixer -> mixer.shareAt(time, 0));
        }
        for (int source : NO_SOURCES) {
            always("shareAt(0, " + source + ")", Twins.INDEX, mixer -> mixer.shareAt(0, source));
            always("shareAt(-1, " + source + ")", Twins.INDEX, mixer -> mixer.shareAt(-1, source));
        }
        Twins.refused("shareAt(1, 0) of a new one", VisionMixer::new, Twins.INDEX, mixer -> mixer.shareAt(1, 0));
        for (int source : new int[] {0, 9}) {
            VisionMixer mixer = new VisionMixer();
            mixer.pass(1);
            mixer.program(source);
            Check.due("shareAt(0, " + source + ")", mixer.shareAt(0, source), 0);
            Check.due("shareAt(1, " + source + ")", mixer.shareAt(1, source), 1000000);
        }
    }

    private static void promises20And21TimesRedAndFirstRed() {
        for (int source : NO_SOURCES) {
            always("timesRed(" + source + ")", Twins.INDEX, mixer -> mixer.timesRed(source));
            always("firstRed(" + source + ")", Twins.INDEX, mixer -> mixer.firstRed(source));
        }
        for (int source : new int[] {0, 9}) {
            VisionMixer mixer = new VisionMixer();
            mixer.pass(1);
            mixer.program(source);
            Check.due("timesRed(" + source + ")", mixer.timesRed(source), 1);
            Check.due("firstRed(" + source + ")", mixer.firstRed(source), 1);
        }
    }

    private static void promise24Act() {
        for (int act : new int[] {-1, 100, Twins.MIN, Twins.MAX}) {
            for (int what : new int[] {0, -1, 4}) {
                always("act(" + act + ", " + what + ")", Twins.INDEX, mixer -> mixer.act(act, what));
            }
        }
        for (int acts : new int[] {3, 4, 99, 100}) {
            Twins.refused("act(" + acts + ", 0)", () -> Twins.withActs(acts), Twins.INDEX,
                mixer -> mixer.act(acts, 0));
            Check.due("act(" + (acts - 1) + ", 0)", Twins.withActs(acts).act(acts - 1, 0), acts == 3 ? 0 : 6);
        }
        for (int what : new int[] {-1, 4, Twins.MIN, Twins.MAX}) {
            Twins.refused("act(0, " + what + ")", Twins::byHand, Twins.ARGUMENT, mixer -> mixer.act(0, what));
            Twins.refused("act(99, " + what + ")", Twins::fullLog, Twins.ARGUMENT, mixer -> mixer.act(99, what));
        }
        Twins.refused("act(0, 0) of no acts", VisionMixer::new, Twins.INDEX, mixer -> mixer.act(0, 0));
        Check.due("act(0, 0)", Twins.byHand().act(0, 0), 0);
        Check.due("act(0, 3)", Twins.fullLog().act(0, 3), 1);
        Check.due("act(99, 2)", Twins.fullLog().act(99, 2), 9);
    }

    private static void promises25And27TakeOutAndRedWithout() {
        for (int act : new int[] {-1, 100, Twins.MIN, Twins.MAX}) {
            always("takeOut(" + act + ")", Twins.INDEX, mixer -> mixer.takeOut(act));
            always("redWithout(" + act + ")", Twins.INDEX, mixer -> mixer.redWithout(act));
        }
        for (int acts : new int[] {3, 4, 99, 100}) {
            Twins.refused("takeOut(" + acts + ")", () -> Twins.withActs(acts), Twins.INDEX,
                mixer -> mixer.takeOut(acts));
            Twins.refused("redWithout(" + acts + ")", () -> Twins.withActs(acts), Twins.INDEX,
                mixer -> mixer.redWithout(acts));
            Check.due("takeOut(), the last", Twins.withActs(acts).takeOut(acts - 1), acts - 1);
            Check.due("takeOut(), the first", Twins.withActs(acts).takeOut(0), acts - 1);
            int red = acts == 3 ? 1 << 1 : 1 << 1 | 1 << 4;
            Check.due("redWithout(), the last", Twins.withActs(acts).redWithout(acts - 1), red);
            Check.due("redWithout(), the first", Twins.withActs(acts).redWithout(0), 1 << 1 | 1 << 4);
        }
        Twins.refused("takeOut(0) of no acts", VisionMixer::new, Twins.INDEX, mixer -> mixer.takeOut(0));
        Twins.refused("redWithout(0) of no acts", VisionMixer::new, Twins.INDEX, mixer -> mixer.redWithout(0));
    }

    private static void promise26Undo() {
        Twins.refused("undo() of a new one", VisionMixer::new, Twins.STATE, VisionMixer::undo);
        Twins.refused("undo() once more than there are acts", RefusedTest::emptied, Twins.STATE, VisionMixer::undo);
        Check.due("undo() of one act", justBegun().undo(), 0);
        Check.due("undo() of 100 acts", Twins.fullLog().undo(), 99);
    }

    private static VisionMixer emptied() {
        VisionMixer mixer = new VisionMixer();
        mixer.pass(3);
        mixer.program(8);
        mixer.cut();
        mixer.undo();
        mixer.undo();
        Check.write(mixer, "w1;");
        return mixer;
    }

    private static void promise29Append() {
        for (int value : new int[] {-1, 128, Twins.MIN, Twins.MAX}) {
            always("append(" + value + ")", Twins.ARGUMENT, mixer -> mixer.append(value));
            Twins.refused("append(" + value + "), 120 bytes", () -> Twins.withText(120), Twins.ARGUMENT,
                mixer -> mixer.append(value));
        }
        for (int value : new int[] {0, 127, ';'}) {
            Check.due("append(" + value + "), no bytes", new VisionMixer().append(value), 1);
            Check.due("append(" + value + "), 119 bytes", Twins.withText(119).append(value), 120);
            Twins.refused("append(" + value + "), 120 bytes", () -> Twins.withText(120), Twins.STATE,
                mixer -> mixer.append(value));
        }
    }
}
