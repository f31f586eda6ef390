/** The edges that the document's section "Log" names: promises 18 to 28, and what is an act (2 to 11). */
final class LogEdgesTest {
    private static final int NONE = VisionMixer.NONE;

    public static void main(String[] args) {
        onlySuccessfulActsAreLogged();
        actsAtTheFirstAndTheLastTime();
        theArgumentsOfActs();
        noActsUpTo100Acts();
        theHundredthActIsReplayed();
        roomAgain();
        framesPassBeforeTheActsOfTheirTime();
        actsOfOneTimeInTheirOrder();
        theStateAtThePresentTimeIsThePresentState();
        timesBetweenTwoActs();
        takingOutTheFirstAMiddleAndTheLastAct();
        takingOutKeepsTimeAndText();
        takingOutTheAutoOfARun();
        nextThatIsNotPossible();
        autoThatIsNotPossible();
        barThatIsNotPossible();
        impossibleActsBecomePossibleAgain();
        possibleWithAFullLog();
        timesRedFrom0ToAll();
        firstRedAt0AtThePresentAndNever();
        longestShotOf1AndOfAllTimes();
        longestShotFirstMiddleLast();
        longestShotOneSourceMore();
        runsAtTheirLastFrame();
        redWithoutIsWhatTakingOutLeaves();
        idleIsWhatTakingOutLeaves();
        idleEmptyAndFull();
        questionsChangeNothing();
        Check.end();
    }

    private static void actIs(VisionMixer mixer, int act, int... due) {
        for (int what = 0; what <= 3; what++) {
            Check.due("act(" + act + ", " + what + ")", mixer.act(act, what), due[what]);
        }
    }

    private static void settings(String when, VisionMixer mixer, int... due) {
        for (int what = 0; what < due.length; what++) {
            Check.due(when + ": setting(" + what + ")", mixer.setting(what), due[what]);
        }
    }

    private static int reds(VisionMixer mixer) {
        int set = 0;
        for (int source = 0; source <= 9; source++) {
            set |= mixer.tally(source) == 2 ? 1 << source : 0;
        }
        return set;
    }

    private static String shares(VisionMixer mixer) {
        StringBuilder all = new StringBuilder();
        for (int source = 0; source <= 9; source++) {
            all.append(mixer.share(source, false)).append(' ');
        }
        return all.toString();
    }

    /** "Each successful call of a method whose description says "logged" is an act" */
    private static void onlySuccessfulActsAreLogged() {
        VisionMixer mixer = new VisionMixer();
        mixer.pass(5);
        mixer.setting(0);
        mixer.keyer(0, 0);
        mixer.share(0, true);
        mixer.tally(0);
        mixer.faulty();
        mixer.settingAt(0, 0);
        mixer.shareAt(0, 0);
        mixer.timesRed(0);
        mixer.firstRed(0);
        mixer.longestShot();
        mixer.runs();
        mixer.idle();
        mixer.append('x');
        mixer.carryOut();
        mixer.clearText();
        mixer.carryOut();
        mixer.digest();
        Check.due("no acts", mixer.setting(8), 0);
        Check.outcome(() -> mixer.program(10));
        Check.outcome(() -> mixer.transition(0, 101));
        Check.outcome(() -> mixer.bar(1001));
        Check.outcome(() -> mixer.fault(0, true));
        Check.due("refused calls are no acts", mixer.setting(8), 0);
        mixer.fault(3, false);
        mixer.bar(0);
        mixer.program(1);
        Check.due("acts that change nothing are acts", mixer.setting(8), 3);
    }

    private static void actsAtTheFirstAndTheLastTime() {
        VisionMixer mixer = new VisionMixer();
        mixer.program(5);
        for (int i = 0; i < 10; i++) {
            mixer.pass(500);
        }
        mixer.program(6);
        actIs(mixer, 0, 0, 0, 5, NONE);
        actIs(mixer, 1, 5000, 0, 6, NONE);
        Check.due("settingAt(0, 0)", mixer.settingAt(0, 0), 5);
        Check.due("settingAt(4999, 0)", mixer.settingAt(4999, 0), 5);
        Check.due("settingAt(5000, 0)", mixer.settingAt(5000, 0), 6);
        Check.due("undo()", mixer.undo(), 1);
        settings("undone at 5000", mixer, 5, 2, 0, 25, 1, 0, NONE, 5000, 1);
    }

    /** "2 its first argument, 3 its second one (NONE if it has not so many ..; 1 for true and 0 for false)" */
    private static void theArgumentsOfActs() {
        VisionMixer mixer = new VisionMixer();
        mixer.program(0);
        mixer.program(9);
        mixer.preview(0);
        mixer.preview(9);
        mixer.transition(0, 1);
        mixer.transition(2, 100);
        mixer.next(0);
        mixer.next(15);
        mixer.key(0, 0, 0, 1);
        mixer.key(2, 9, 100, 100);
        mixer.toggle(0);
        mixer.toggle(2);
        mixer.bar(0);
        mixer.bar(1000);
        mixer.cut();
        mixer.auto();
        mixer.fault(1, false);
        mixer.fault(9, true);
        int[][] due = {
            {0, 0, 0, NONE}, {0, 0, 9, NONE}, {0, 1, 0, NONE}, {0, 1, 9, NONE}, {0, 2, 0, 1}, {0, 2, 2, 100},
            {0, 3, 0, NONE}, {0, 3, 15, NONE}, {0, 4, 0, 0}, {0, 4, 2, 9}, {0, 5, 0, NONE}, {0, 5, 2, NONE},
            {0, 8, 0, NONE}, {0, 8, 1000, NONE}, {0, 6, NONE, NONE}, {0, 7, NONE, NONE}, {0, 9, 1, 0}, {0, 9, 9, 1},
        };
        Check.due("setting(8)", mixer.setting(8), due.length);
        for (int act = 0; act < due.length; act++) {
            actIs(mixer, act, due[act]);
        }
    }

    /** "there are at most 100 acts" */
    private static void noActsUpTo100Acts() {
        VisionMixer mixer = new VisionMixer();
        for (int acts = 0; acts < 100; acts++) {
            Check.due("setting(8)", mixer.setting(8), acts);
            mixer.toggle(acts % 3);
        }
        Check.due("setting(8), full", mixer.setting(8), 100);
        Check.dueText("toggle(0), full", Check.outcome(() -> mixer.toggle(0)), "IllegalStateException");
        Check.due("setting(8), still full", mixer.setting(8), 100);
        Check.due("keyer(0, 3): toggled 34 times", mixer.keyer(0, 3), 0);
        Check.due("keyer(1, 3): toggled 33 times", mixer.keyer(1, 3), 1);
        Check.due("keyer(2, 3): toggled 33 times", mixer.keyer(2, 3), 1);
        Check.due("pass(1), full", mixer.pass(1), 1);
        for (int left = 99; left >= 0; left--) {
            Check.due("undo()", mixer.undo(), left);
        }
        Check.dueText("undo(), empty", Check.outcome(mixer::undo), "IllegalStateException");
    }

    private static void theHundredthActIsReplayed() {
        VisionMixer mixer = Twins.withActs(99);
        mixer.program(8);
        mixer.pass(2);
        settings("full", mixer, 8, 8, 0, 25, 1, 0, NONE, 9, 100);
        Check.due("settingAt(6, 0)", mixer.settingAt(6, 0), 1);
        Check.due("settingAt(7, 0)", mixer.settingAt(7, 0), 8);
        Check.due("settingAt(9, 0)", mixer.settingAt(9, 0), 8);
        Check.due("firstRed(8)", mixer.firstRed(8), 7);
        Check.due("timesRed(8)", mixer.timesRed(8), 3);
        Check.due("redWithout(98)", mixer.redWithout(98), 1 << 8 | 1 << 4);
        Check.due("redWithout(99)", mixer.redWithout(99), 1 << 1 | 1 << 4);
        Check.due("idle()", mixer.idle(), 97);
        Check.due("takeOut(99)", mixer.takeOut(99), 99);
        settings("without the hundredth", mixer, 1, 8, 0, 25, 1, 0, NONE, 9, 99);
    }

    private static void roomAgain() {
        VisionMixer mixer = Twins.fullLog();
        Check.due("undo()", mixer.undo(), 99);
        Check.due("cut()", mixer.cut(), 8);
        Check.dueText("cut(), full", Check.outcome(mixer::cut), "IllegalStateException");
        Check.due("takeOut(0)", mixer.takeOut(0), 99);
        Check.due("program(7)", mixer.program(7), 8);
        actIs(mixer, 98, 7, 6, NONE, NONE);
        actIs(mixer, 99, 7, 0, 7, NONE);
        Check.dueText("cut(), full again", Check.outcome(mixer::cut), "IllegalStateException");
    }

    /** A run ends at the very time of an act: the frame comes first, also when it is replayed. */
    private static void framesPassBeforeTheActsOfTheirTime() {
        VisionMixer mixer = new VisionMixer();
        mixer.fault(9, true);
        mixer.transition(0, 10);
        mixer.auto();
        mixer.pass(10);
        mixer.program(7);
        Check.due("next(1) is possible then", mixer.next(1), 1);
        mixer.bar(100);
        mixer.pass(5);
        Check.due("settingAt(9, 0)", mixer.settingAt(9, 0), 1);
        Check.due("settingAt(9, 5)", mixer.settingAt(9, 5), 900);
        Check.due("settingAt(10, 0)", mixer.settingAt(10, 0), 7);
        Check.due("settingAt(10, 1)", mixer.settingAt(10, 1), 1);
        Check.due("settingAt(10, 5)", mixer.settingAt(10, 5), 100);
        Check.due("settingAt(10, 6)", mixer.settingAt(10, 6), NONE);
        mixer.takeOut(0);
        settings("replayed", mixer, 7, 1, 0, 10, 1, 100, NONE, 15, 5);
        Check.due("firstRed(2): the time before", mixer.firstRed(2), 1);
        Check.due("timesRed(2)", mixer.timesRed(2), 9);
        Check.due("runs()", mixer.runs(), 1);
    }

    private static void actsOfOneTimeInTheirOrder() {
        VisionMixer mixer = new VisionMixer();
        mixer.pass(4);
        mixer.program(5);
        mixer.cut();
        mixer.preview(6);
        mixer.cut();
        mixer.program(3);
        settings("in their order", mixer, 3, 2, 0, 25, 1, 0, NONE, 4, 5);
        Check.due("settingAt(4, 0)", mixer.settingAt(4, 0), 3);
        Check.due("settingAt(4, 1)", mixer.settingAt(4, 1), 2);
        Check.due("settingAt(3, 0)", mixer.settingAt(3, 0), 1);
        mixer.takeOut(1);
        settings("without the first cut", mixer, 3, 5, 0, 25, 1, 0, NONE, 4, 4);
        mixer.undo();
        settings("without the last", mixer, 6, 5, 0, 25, 1, 0, NONE, 4, 3);
    }

    /** "(So the state at the present time is the present state.)" */
    private static void theStateAtThePresentTimeIsThePresentState() {
        VisionMixer[] mixers = {
            new VisionMixer(), Twins.byHand(), Twins.inRun(), Twins.fullLog(), Twins.fullLogInRun(), Twins.atTime(5000),
        };
        for (VisionMixer mixer : mixers) {
            int now = mixer.setting(7);
            for (int what = 0; what <= 6; what++) {
                Check.due("settingAt(" + now + ", " + what + ")", mixer.settingAt(now, what), mixer.setting(what));
            }
            for (int source = 0; source <= 9; source++) {
                Check.due("shareAt(" + now + ", " + source + ")", mixer.shareAt(now, source),
                    mixer.share(source, false));
            }
        }
    }

    private static void timesBetweenTwoActs() {
        VisionMixer mixer = new VisionMixer();
        mixer.transition(0, 100);
        mixer.pass(3);
        mixer.auto();
        mixer.pass(50);
        mixer.transition(0, 50);
        mixer.pass(3);
        int[][] due = {
            {0, 0, NONE, 100}, {2, 0, NONE, 100}, {3, 0, 0, 100}, {4, 10, 1, 100}, {52, 490, 49, 100},
            {53, 500, 50, 50}, {54, 0, NONE, 50}, {56, 0, NONE, 50},
        };
        for (int[] row : due) {
            Check.due("settingAt(" + row[0] + ", 5)", mixer.settingAt(row[0], 5), row[1]);
            Check.due("settingAt(" + row[0] + ", 6)", mixer.settingAt(row[0], 6), row[2]);
            Check.due("settingAt(" + row[0] + ", 3)", mixer.settingAt(row[0], 3), row[3]);
            Check.due("shareAt(" + row[0] + ", 2)", mixer.shareAt(row[0], 2), row[0] < 54 ? row[1] * 1000 : 1000000);
        }
    }

    /** "the numbers of those behind it decrease by 1" */
    private static void takingOutTheFirstAMiddleAndTheLastAct() {
        for (int takenOut = 0; takenOut <= 4; takenOut++) {
            VisionMixer mixer = new VisionMixer();
            for (int i = 0; i <= 4; i++) {
                mixer.pass(10);
                mixer.key(i % 3, 5 + i, 60 + i, 70 + i);
            }
            Check.due("takeOut(" + takenOut + ")", mixer.takeOut(takenOut), 4);
            Check.due("setting(8)", mixer.setting(8), 4);
            for (int act = 0; act <= 3; act++) {
                int former = act < takenOut ? act : act + 1;
                actIs(mixer, act, 10 * former + 10, 4, former % 3, 5 + former);
            }
            Check.dueText("act(4, 0)", Check.outcome(() -> mixer.act(4, 0)), "IndexOutOfBoundsException");
            // keyers 0 and 1 were set twice, keyer 2 once
            int[] last = {3, 4, 2};
            for (int keyer = 0; keyer <= 2; keyer++) {
                int by = last[keyer] == takenOut ? last[keyer] - 3 : last[keyer];
                Check.due("keyer(" + keyer + ", 0)", mixer.keyer(keyer, 0), by < 0 ? 3 + keyer : 5 + by);
                Check.due("keyer(" + keyer + ", 1)", mixer.keyer(keyer, 1), by < 0 ? 100 : 60 + by);
                Check.due("keyer(" + keyer + ", 2)", mixer.keyer(keyer, 2), by < 0 ? 25 : 70 + by);
            }
        }
    }

    /** "at the present time" */
    private static void takingOutKeepsTimeAndText() {
        VisionMixer mixer = new VisionMixer();
        mixer.pass(100);
        mixer.program(4);
        mixer.pass(23);
        Check.write(mixer, "w7;");
        Check.due("undo()", mixer.undo(), 0);
        settings("undone", mixer, 1, 2, 0, 25, 1, 0, NONE, 123, 0);
        Check.due("carryOut()", mixer.carryOut(), 1);
        Check.due("setting(7)", mixer.setting(7), 130);
        Check.due("clearText()", mixer.clearText(), 3);
    }

    private static void takingOutTheAutoOfARun() {
        VisionMixer mixer = new VisionMixer();
        mixer.auto();
        mixer.pass(24);
        Check.due("undo()", mixer.undo(), 0);
        settings("no run then", mixer, 1, 2, 0, 25, 1, 0, NONE, 24, 0);
        mixer.pass(1);
        settings("no completing then", mixer, 1, 2, 0, 25, 1, 0, NONE, 25, 0);
        VisionMixer rate = new VisionMixer();
        rate.transition(0, 10);
        rate.auto();
        rate.pass(20);
        Check.due("runs()", rate.runs(), 1);
        // at rate 25 the run still goes on
        Check.due("takeOut(0)", rate.takeOut(0), 1);
        settings("the rate is taken back", rate, 1, 2, 0, 25, 1, 800, 20, 20, 1);
        Check.due("runs() then", rate.runs(), 0);
    }

    /** "(An act that is not possible when it is replayed does nothing then, but stays in the log.)" */
    private static void nextThatIsNotPossible() {
        VisionMixer mixer = new VisionMixer();
        mixer.bar(1);
        mixer.bar(0);
        mixer.next(7);
        mixer.takeOut(1);
        settings("next() at position 1", mixer, 1, 2, 0, 25, 1, 1, NONE, 0, 2);
        actIs(mixer, 1, 0, 3, 7, NONE);
        VisionMixer run = new VisionMixer();
        run.auto();
        run.cut();
        run.next(7);
        run.takeOut(1);
        settings("next() in a run of 0 frames", run, 1, 2, 0, 25, 1, 0, 0, 0, 2);
        actIs(run, 1, 0, 3, 7, NONE);
        VisionMixer possible = new VisionMixer();
        possible.bar(0);
        possible.next(7);
        possible.takeOut(0);
        settings("next() at position 0", possible, 1, 2, 0, 25, 7, 0, NONE, 0, 1);
    }

    private static void autoThatIsNotPossible() {
        VisionMixer mixer = new VisionMixer();
        mixer.bar(1);
        mixer.bar(0);
        mixer.auto();
        mixer.takeOut(1);
        mixer.pass(30);
        settings("auto() at position 1", mixer, 1, 2, 0, 25, 1, 1, NONE, 30, 2);
        actIs(mixer, 1, 0, 7, NONE, NONE);
        Check.due("runs()", mixer.runs(), 0);
        VisionMixer run = new VisionMixer();
        run.auto();
        run.pass(10);
        run.cut();
        run.auto();
        run.pass(10);
        run.takeOut(1);
        // the first run goes on, and is not begun again
        settings("auto() in a run", run, 1, 2, 0, 25, 1, 800, 20, 20, 2);
        actIs(run, 1, 10, 7, NONE, NONE);
        run.pass(5);
        settings("the first run ends", run, 2, 1, 0, 25, 1, 0, NONE, 25, 2);
        Check.due("runs() of the first one", run.runs(), 1);
    }

    private static void barThatIsNotPossible() {
        for (int position : new int[] {0, 700, 1000}) {
            VisionMixer mixer = new VisionMixer();
            mixer.auto();
            mixer.pass(10);
            mixer.cut();
            mixer.bar(position);
            mixer.pass(5);
            mixer.takeOut(1);
            settings("bar(" + position + ") in a run", mixer, 1, 2, 0, 25, 1, 600, 15, 15, 2);
            actIs(mixer, 1, 10, 8, position, NONE);
        }
        VisionMixer possible = new VisionMixer();
        possible.bar(3);
        possible.bar(5);
        possible.bar(7);
        possible.takeOut(1);
        settings("bar() under way by hand", possible, 1, 2, 0, 25, 1, 7, NONE, 0, 2);
    }

    private static void impossibleActsBecomePossibleAgain() {
        VisionMixer mixer = new VisionMixer();
        mixer.auto();
        mixer.pass(2);
        mixer.cut();
        mixer.next(6);
        mixer.bar(40);
        Check.due("takeOut(1)", mixer.takeOut(1), 3);
        settings("the run goes on", mixer, 1, 2, 0, 25, 1, 80, 2, 2, 3);
        Check.due("takeOut(0)", mixer.takeOut(0), 2);
        settings("without the run", mixer, 1, 2, 0, 25, 6, 40, NONE, 2, 2);
    }

    /** With 100 acts in the log each of them is possible still. */
    private static void possibleWithAFullLog() {
        VisionMixer mixer = new VisionMixer();
        for (int i = 0; i < 98; i++) {
            mixer.cut();
        }
        mixer.next(3);
        mixer.auto();
        mixer.pass(10);
        Check.due("settingAt(10, 6)", mixer.settingAt(10, 6), 10);
        Check.due("settingAt(10, 4)", mixer.settingAt(10, 4), 3);
        Check.due("settingAt(0, 0)", mixer.settingAt(0, 0), 1);
        Check.due("redWithout(99)", mixer.redWithout(99), 1 << 1);
        Check.due("redWithout(98)", mixer.redWithout(98), 1 << 1 | 1 << 2);
        Check.due("redWithout(97)", mixer.redWithout(97), 1 << 1 | 1 << 2 | 1 << 3);
    }

    /** "Questions about several times look at each time once, behind all acts of that time." */
    private static void timesRedFrom0ToAll() {
        VisionMixer mixer = new VisionMixer();
        Check.due("timesRed(1) at 0", mixer.timesRed(1), 1);
        Check.due("timesRed(5) at 0", mixer.timesRed(5), 0);
        mixer.pass(0);
        Check.due("timesRed(1), no frame", mixer.timesRed(1), 1);
        mixer.program(5);
        Check.due("timesRed(1), at 0 behind the act", mixer.timesRed(1), 0);
        Check.due("timesRed(5), at 0 behind the act", mixer.timesRed(5), 1);
        for (int i = 0; i < 10; i++) {
            mixer.pass(500);
        }
        Check.due("timesRed(5) at 5000", mixer.timesRed(5), 5001);
        mixer.program(6);
        Check.due("timesRed(5), not at 5000 behind the act", mixer.timesRed(5), 5000);
        Check.due("timesRed(6)", mixer.timesRed(6), 1);
        mixer.program(5);
        Check.due("timesRed(5), at 5000 again", mixer.timesRed(5), 5001);
        Check.due("timesRed(6), not behind the acts", mixer.timesRed(6), 0);
        Check.due("timesRed(0)", mixer.timesRed(0), 0);
    }

    private static void firstRedAt0AtThePresentAndNever() {
        VisionMixer mixer = new VisionMixer();
        Check.due("firstRed(1) at 0", mixer.firstRed(1), 0);
        Check.due("firstRed(2) at 0", mixer.firstRed(2), NONE);
        mixer.pass(1);
        mixer.program(9);
        mixer.program(2);
        Check.due("firstRed(2) at the present", mixer.firstRed(2), 1);
        Check.due("firstRed(9), not behind the acts", mixer.firstRed(9), NONE);
        Check.due("firstRed(1)", mixer.firstRed(1), 0);
        mixer.pass(10);
        mixer.program(0);
        Check.due("firstRed(0)", mixer.firstRed(0), 11);
        mixer.undo();
        Check.due("firstRed(0), taken back", mixer.firstRed(0), NONE);
        VisionMixer run = new VisionMixer();
        run.pass(7);
        run.auto();
        Check.due("firstRed(2), a run of 0 frames", run.firstRed(2), NONE);
        run.pass(1);
        Check.due("firstRed(2), a run of 1 frame", run.firstRed(2), 8);
        VisionMixer late = Twins.atTime(5000);
        late.cut();
        Check.due("firstRed(2) at 5000", late.firstRed(2), 5000);
    }

    private static void longestShotOf1AndOfAllTimes() {
        VisionMixer mixer = new VisionMixer();
        Check.due("longestShot() at 0", mixer.longestShot(), 1);
        mixer.program(4);
        Check.due("longestShot() at 0 behind an act", mixer.longestShot(), 1);
        mixer.pass(1);
        Check.due("longestShot() at 1", mixer.longestShot(), 2);
        mixer.program(3);
        Check.due("longestShot(), two shots of 1", mixer.longestShot(), 1);
        for (int i = 0; i < 9; i++) {
            mixer.pass(500);
        }
        mixer.pass(499);
        Check.due("longestShot(), all but the first time", mixer.longestShot(), 5000);
        mixer.undo();
        Check.due("longestShot(), all times", mixer.longestShot(), 5001);
    }

    private static void longestShotFirstMiddleLast() {
        int[][] lengths = {{9, 4, 2}, {4, 9, 2}, {2, 4, 9}, {5, 5, 5}};
        for (int[] row : lengths) {
            VisionMixer mixer = new VisionMixer();
            mixer.pass(row[0]);
            mixer.program(5);
            mixer.pass(row[1]);
            mixer.program(1);
            mixer.pass(row[2] - 1);
            // the first and the last shot have the same sources, but not one after the other
            Check.due("shots of " + row[0] + ", " + row[1] + ", " + row[2], mixer.longestShot(), row[0] == 5 ? 5 : 9);
        }
    }

    /** "at which the same sources were red": not one more, not one less, whatever their shares. */
    private static void longestShotOneSourceMore() {
        VisionMixer mixer = new VisionMixer();
        mixer.pass(3);
        mixer.toggle(0);
        mixer.pass(4);
        mixer.key(0, 3, 1, 1);
        mixer.fault(3, true);
        mixer.pass(2);
        mixer.key(0, 3, 0, 1);
        mixer.pass(2);
        // shots: 0 to 2, 3 to 8 (with source 3), 9 to 11
        Check.due("one source more and one less", mixer.longestShot(), 6);
        VisionMixer run = new VisionMixer();
        run.pass(2);
        run.transition(0, 8);
        run.auto();
        run.pass(8);
        // shots: 0 to 2, 3 to 9 (two sources), 10
        Check.due("a run with all its frames", run.longestShot(), 7);
        VisionMixer still = new VisionMixer();
        still.next(0);
        still.transition(0, 8);
        still.pass(2);
        still.auto();
        still.pass(20);
        Check.due("a run that changes no picture", still.longestShot(), 23);
    }

    /** "completed by a run (by a frame that passed, not by cut() or bar())" */
    private static void runsAtTheirLastFrame() {
        VisionMixer mixer = new VisionMixer();
        Check.due("runs(), new", mixer.runs(), 0);
        mixer.transition(0, 3);
        mixer.auto();
        mixer.pass(2);
        Check.due("runs(), the frame before", mixer.runs(), 0);
        mixer.pass(1);
        Check.due("runs(), the last frame", mixer.runs(), 1);
        mixer.pass(500);
        Check.due("runs(), frames behind it", mixer.runs(), 1);
        mixer.auto();
        mixer.pass(2);
        mixer.cut();
        mixer.bar(1000);
        mixer.pass(1);
        Check.due("runs(), by cut() and bar(1000)", mixer.runs(), 1);
        mixer.auto();
        mixer.pass(2);
        mixer.transition(0, 1);
        Check.due("runs(), the rate is passed, no frame yet", mixer.runs(), 1);
        mixer.pass(1);
        Check.due("runs(), the next frame", mixer.runs(), 2);
        mixer.auto();
        mixer.pass(1);
        Check.due("runs() at rate 1", mixer.runs(), 3);
        mixer.undo();
        Check.due("runs(), the last taken back", mixer.runs(), 2);
    }

    /** Every act of these mixers, taken out of a twin. */
    private static void redWithoutIsWhatTakingOutLeaves() {
        Twins.Maker[] makers = {Twins::byHand, Twins::inRun, Twins::fullLogInRun};
        for (Twins.Maker maker : makers) {
            VisionMixer mixer = maker.make();
            int acts = mixer.setting(8);
            for (int act = 0; act < acts; act++) {
                VisionMixer twin = maker.make();
                twin.takeOut(act);
                Check.due("redWithout(" + act + ") of " + acts, mixer.redWithout(act), reds(twin));
            }
            Check.due("digest() behind redWithout()", mixer.digest(), maker.make().digest());
        }
    }

    /** "without a change of the shares of the present picture": of the shares, and of the present ones. */
    private static void idleIsWhatTakingOutLeaves() {
        Twins.Maker[] makers = {Twins::byHand, Twins::inRun, Twins::fullLogInRun, () -> Twins.atTime(30)};
        for (Twins.Maker maker : makers) {
            VisionMixer mixer = maker.make();
            int acts = mixer.setting(8);
            String shares = shares(mixer);
            int due = 0;
            for (int act = 0; act < acts; act++) {
                VisionMixer twin = maker.make();
                twin.takeOut(act);
                due += shares(twin).equals(shares) ? 1 : 0;
            }
            Check.due("idle() of " + acts, mixer.idle(), due);
        }
        VisionMixer shares = new VisionMixer();
        shares.toggle(0);
        shares.key(0, 3, 100, 26);
        Check.due("the red sources stay, the shares do not", shares.idle(), 0);
        shares.fault(1, true);
        shares.fault(3, true);
        Check.due("the seen shares change, the shares do not", shares.idle(), 2);
        VisionMixer past = new VisionMixer();
        past.program(5);
        past.pass(3);
        past.program(6);
        Check.due("a former picture changes", past.idle(), 1);
        VisionMixer alone = new VisionMixer();
        alone.toggle(1);
        alone.toggle(1);
        Check.due("each alone is seen", alone.idle(), 0);
        alone.toggle(1);
        alone.toggle(1);
        Check.due("each of four alone is seen", alone.idle(), 0);
    }

    private static void idleEmptyAndFull() {
        VisionMixer mixer = new VisionMixer();
        Check.due("idle(), empty", mixer.idle(), 0);
        for (int acts = 1; acts <= 100; acts++) {
            mixer.preview(acts % 10);
            if (acts == 1 || acts >= 99) {
                Check.due("idle() of " + acts, mixer.idle(), acts);
            }
        }
        VisionMixer none = new VisionMixer();
        for (int i = 0; i < 100; i++) {
            none.cut();
        }
        Check.due("idle() of 100 cuts", none.idle(), 0);
        Check.due("redWithout(0)", none.redWithout(0), 1 << 2);
        Check.due("redWithout(99)", none.redWithout(99), 1 << 2);
    }

    private static void questionsChangeNothing() {
        Twins.Maker[] makers = {VisionMixer::new, Twins::byHand, Twins::inRun, Twins::fullLogInRun};
        for (Twins.Maker maker : makers) {
            VisionMixer mixer = maker.make();
            mixer.settingAt(0, 0);
            mixer.shareAt(0, 1);
            mixer.timesRed(1);
            mixer.firstRed(9);
            mixer.longestShot();
            mixer.runs();
            mixer.idle();
            mixer.share(0, true);
            mixer.tally(2);
            mixer.faulty();
            mixer.digest();
            if (mixer.setting(8) > 0) {
                mixer.redWithout(0);
                mixer.act(0, 3);
            }
            Twins.alike("behind questions", mixer, maker.make());
        }
    }
}
