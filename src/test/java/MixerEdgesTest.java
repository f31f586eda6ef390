/**
 * The edges that the document's sections "Sources", "Mixer", "Completing" and "Time" name, and those of promises
 * 1 to 14. What is refused is in RefusedTest.
 */
final class MixerEdgesTest {
    private static final int NONE = VisionMixer.NONE;

    public static void main(String[] args) {
        theLowestAndTheHighestSource();
        noneIsFaultyInitiallyAndBlackNeverIs();
        theInitialStateIsThatOfTime0();
        theInitialStateIsFoundAgain();
        kindsAndRates();
        everySetOfElements();
        positions();
        underWayAbovePosition0();
        underWayInARunOf0Frames();
        notUnderWayBehindCompleting();
        keyersFillsOpacitiesAndAreas();
        oneSourceIsProgramAndPreview();
        completingTwice();
        completingWithoutElements();
        completingARunEndsIt();
        time0To5000();
        noFrames();
        noRunNoPosition();
        everyFrameOfEveryRate();
        aRateThatTheRunHasReached();
        theLastFrameOfARunWithinAPass();
        settingsEdges();
        Check.end();
    }

    private static void settings(String when, VisionMixer mixer, int... due) {
        for (int what = 0; what < due.length; what++) {
            Check.due(when + ": setting(" + what + ")", mixer.setting(what), due[what]);
        }
    }

    /** "There are 10 sources, numbered 0 to 9." */
    private static void theLowestAndTheHighestSource() {
        VisionMixer mixer = new VisionMixer();
        Check.due("program(0)", mixer.program(0), 1);
        Check.due("program(9)", mixer.program(9), 0);
        Check.due("preview(0)", mixer.preview(0), 2);
        Check.due("preview(9)", mixer.preview(9), 0);
        Check.due("key() with 0", mixer.key(0, 0, 1, 1), 3);
        Check.due("key() with 9", mixer.key(0, 9, 1, 1), 0);
        Check.due("fault(1, true)", mixer.fault(1, true), 0);
        Check.due("fault(9, true)", mixer.fault(9, true), 0);
        settings("the highest sources", mixer, 9, 9);
        Check.due("keyer(0, 0)", mixer.keyer(0, 0), 9);
        Check.due("setting(8)", mixer.setting(8), 8);
    }

    /** "A source can be faulty (initially none is); black never is." */
    private static void noneIsFaultyInitiallyAndBlackNeverIs() {
        for (int source = 1; source <= 9; source++) {
            VisionMixer mixer = new VisionMixer();
            mixer.program(source);
            Check.due("faulty() of source " + source, mixer.faulty(), 0.0);
            Check.due("fault(" + source + ", true)", mixer.fault(source, true), 0);
            Check.due("faulty() then", mixer.faulty(), 1.0);
            Check.due("fault() of it again", mixer.fault(source, true), 1);
            for (int other = 1; other <= 9; other++) {
                Check.due("fault(" + other + ", false)", mixer.fault(other, false), other == source ? 1 : 0);
            }
            Check.due("faulty() when sound", mixer.faulty(), 0.0);
        }
        VisionMixer black = new VisionMixer();
        for (int source = 1; source <= 9; source++) {
            black.fault(source, true);
        }
        black.program(0);
        Check.due("faulty() of black", black.faulty(), 0.0);
        Check.due("share(0, true)", black.share(0, true), 1000000);
        Check.due("share(0, false)", black.share(0, false), 1000000);
    }

    /** What the initial state is, as seen at time 0 when everything has been changed later. */
    private static void theInitialStateIsThatOfTime0() {
        VisionMixer mixer = changedFromTime(1);
        int[] due = {1, 2, 0, 25, 1, 0, NONE};
        for (int what = 0; what <= 6; what++) {
            Check.due("settingAt(0, " + what + ")", mixer.settingAt(0, what), due[what]);
        }
        for (int source = 0; source <= 9; source++) {
            Check.due("shareAt(0, " + source + ")", mixer.shareAt(0, source), source == 1 ? 1000000 : 0);
        }
        int[] then = {6, 7, 2, 4, 15, 250, 1};
        for (int what = 0; what <= 6; what++) {
            Check.due("settingAt(2, " + what + ")", mixer.settingAt(2, what), then[what]);
        }
    }

    /** Everything that has an initial value has another one, and a run is there. */
    private static VisionMixer changedFromTime(int time) {
        VisionMixer mixer = new VisionMixer();
        mixer.pass(time);
        mixer.program(6);
        mixer.preview(7);
        mixer.transition(2, 4);
        mixer.next(15);
        for (int keyer = 0; keyer <= 2; keyer++) {
            mixer.key(keyer, 9 - keyer, 50 + keyer, 60 + keyer);
            mixer.toggle(keyer);
        }
        for (int source = 1; source <= 9; source++) {
            mixer.fault(source, true);
        }
        mixer.auto();
        mixer.pass(1);
        return mixer;
    }

    /** Taken back act by act, nothing of the former state may be left. */
    private static void theInitialStateIsFoundAgain() {
        VisionMixer mixer = changedFromTime(1);
        for (int left = mixer.setting(8) - 1; left >= 0; left--) {
            Check.due("undo()", mixer.undo(), left);
            mixer.settingAt(1, 0);
            mixer.runs();
        }
        VisionMixer fresh = new VisionMixer();
        fresh.pass(2);
        Twins.alike("a mixer whose acts are all taken back", mixer, fresh);
        VisionMixer first = changedFromTime(0);
        while (first.setting(8) > 0) {
            first.takeOut(0);
        }
        VisionMixer other = new VisionMixer();
        other.pass(1);
        Twins.alike("a mixer whose acts are taken out from the first", first, other);
    }

    /** "a kind of transition (0 mix, 1 wipe, 2 dip)", "a rate, 1 to 100 frames". */
    private static void kindsAndRates() {
        VisionMixer mixer = new VisionMixer();
        int previous = 0;
        for (int kind : new int[] {2, 0, 1, 1, 0, 2}) {
            Check.due("transition(" + kind + ", 1)", mixer.transition(kind, 1), previous);
            settings("rate 1", mixer, 1, 2, kind, 1);
            Check.due("transition(" + kind + ", 100)", mixer.transition(kind, 100), kind);
            settings("rate 100", mixer, 1, 2, kind, 100);
            previous = kind;
        }
        VisionMixer longest = new VisionMixer();
        longest.transition(0, 100);
        Check.due("auto()", longest.auto(), 100);
        longest.pass(99);
        settings("99 of 100 frames", longest, 1, 2, 0, 100, 1, 990, 99, 99);
        longest.pass(1);
        settings("100 of 100 frames", longest, 2, 1, 0, 100, 1, 0, NONE, 100);
        VisionMixer shortest = new VisionMixer();
        shortest.transition(0, 1);
        Check.due("auto()", shortest.auto(), 1);
        settings("0 of 1 frames", shortest, 1, 2, 0, 1, 1, 0, 0, 0);
        shortest.pass(1);
        settings("1 of 1 frames", shortest, 2, 1, 0, 1, 1, 0, NONE, 1);
    }

    /** "a set: bit 0 the background, bit 1 + j the keyer j" */
    private static void everySetOfElements() {
        for (int elements = 0; elements <= 15; elements++) {
            VisionMixer mixer = new VisionMixer();
            mixer.toggle(1);
            Check.due("next(" + elements + ")", mixer.next(elements), 1);
            boolean background = (elements & 1) != 0;
            Check.due("cut()", mixer.cut(), background ? 2 : 1);
            String when = "elements " + elements;
            settings(when, mixer, background ? 2 : 1, background ? 1 : 2, 0, 25, elements, 0, NONE, 0, 3);
            Check.due(when + ": keyer 0", mixer.keyer(0, 3), (elements & 2) != 0 ? 1 : 0);
            Check.due(when + ": keyer 1", mixer.keyer(1, 3), (elements & 4) != 0 ? 0 : 1);
            Check.due(when + ": keyer 2", mixer.keyer(2, 3), (elements & 8) != 0 ? 1 : 0);
        }
    }

    /** "a position, 0 to 1000"; "With 1000 the transition is completed at once." */
    private static void positions() {
        VisionMixer mixer = new VisionMixer();
        int previous = 0;
        for (int position : new int[] {0, 1, 998, 999, 0, 999}) {
            Check.due("bar(" + position + ")", mixer.bar(position), previous);
            settings("bar(" + position + ")", mixer, 1, 2, 0, 25, 1, position, NONE);
            previous = position;
        }
        Check.due("bar(1000)", mixer.bar(1000), 999);
        settings("bar(1000)", mixer, 2, 1, 0, 25, 1, 0, NONE, 0, 7);
        Check.due("bar(1000) from 0", mixer.bar(1000), 0);
        settings("bar(1000) from 0", mixer, 1, 2, 0, 25, 1, 0, NONE, 0, 8);
    }

    /** "A transition is under way if the position is above 0 or a run is there." */
    private static void underWayAbovePosition0() {
        VisionMixer mixer = new VisionMixer();
        Check.due("next(3) at 0", mixer.next(3), 1);
        mixer.bar(1);
        Check.dueText("next(1) at 1", Check.outcome(() -> mixer.next(1)), "IllegalStateException");
        Check.dueText("auto() at 1", Check.outcome(mixer::auto), "IllegalStateException");
        Check.due("bar(0)", mixer.bar(0), 1);
        Check.due("next(1) at 0 again", mixer.next(1), 3);
        Check.due("auto() at 0 again", mixer.auto(), 25);
    }

    private static void underWayInARunOf0Frames() {
        VisionMixer mixer = new VisionMixer();
        mixer.auto();
        settings("a run of 0 frames", mixer, 1, 2, 0, 25, 1, 0, 0);
        Check.dueText("next(1)", Check.outcome(() -> mixer.next(1)), "IllegalStateException");
        Check.dueText("auto()", Check.outcome(mixer::auto), "IllegalStateException");
        Check.dueText("bar(0)", Check.outcome(() -> mixer.bar(0)), "IllegalStateException");
        Check.due("setting(8)", mixer.setting(8), 1);
    }

    private static void notUnderWayBehindCompleting() {
        VisionMixer mixer = new VisionMixer();
        mixer.auto();
        mixer.pass(24);
        Check.dueText("next(3) at the frame before", Check.outcome(() -> mixer.next(3)), "IllegalStateException");
        mixer.pass(1);
        Check.due("next(3) behind a run", mixer.next(3), 1);
        mixer.bar(1000);
        Check.due("next(5) behind bar(1000)", mixer.next(5), 3);
        mixer.auto();
        mixer.cut();
        Check.due("next(1) behind cut()", mixer.next(1), 5);
        Check.due("auto()", mixer.auto(), 25);
        mixer.cut();
        Check.due("bar(7) behind cut() of a run", mixer.bar(7), 0);
    }

    /** "3 keyers, numbered 0 to 2", "an opacity, 0 to 100", "an area, 1 to 100" */
    private static void keyersFillsOpacitiesAndAreas() {
        VisionMixer mixer = new VisionMixer();
        int[][] limits = {{0, 0, 1}, {9, 100, 100}, {0, 100, 1}, {9, 0, 100}};
        for (int keyer = 0; keyer <= 2; keyer++) {
            int previous = 3 + keyer;
            for (int[] row : limits) {
                Check.due("key(" + keyer + ", ..)", mixer.key(keyer, row[0], row[1], row[2]), previous);
                previous = row[0];
                for (int what = 0; what <= 2; what++) {
                    Check.due("keyer(" + keyer + ", " + what + ")", mixer.keyer(keyer, what), row[what]);
                }
                Check.due("keyer(" + keyer + ", 3)", mixer.keyer(keyer, 3), 0);
            }
            Check.due("toggle(" + keyer + ")", mixer.toggle(keyer), 1);
            Check.due("keyer(" + keyer + ", 3) on", mixer.keyer(keyer, 3), 1);
            Check.due("toggle(" + keyer + ") again", mixer.toggle(keyer), 0);
            Check.due("keyer(" + keyer + ", 3) off", mixer.keyer(keyer, 3), 0);
        }
    }

    private static void oneSourceIsProgramAndPreview() {
        VisionMixer mixer = new VisionMixer();
        Check.due("preview(1)", mixer.preview(1), 2);
        Check.due("cut()", mixer.cut(), 1);
        settings("exchanged with itself", mixer, 1, 1, 0, 25, 1, 0, NONE, 0, 2);
        Check.due("program(1), which it is", mixer.program(1), 1);
        Check.due("an act that changes nothing is one", mixer.setting(8), 3);
    }

    private static void completingTwice() {
        VisionMixer mixer = new VisionMixer();
        mixer.next(15);
        mixer.toggle(2);
        mixer.cut();
        mixer.cut();
        settings("cut twice", mixer, 1, 2, 0, 25, 15, 0, NONE, 0, 4);
        Check.due("keyer(0, 3)", mixer.keyer(0, 3), 0);
        Check.due("keyer(1, 3)", mixer.keyer(1, 3), 0);
        Check.due("keyer(2, 3)", mixer.keyer(2, 3), 1);
    }

    private static void completingWithoutElements() {
        for (int way = 0; way <= 2; way++) {
            VisionMixer mixer = new VisionMixer();
            mixer.toggle(1);
            mixer.next(0);
            if (way == 0) {
                mixer.bar(400);
                Check.due("cut() without elements", mixer.cut(), 1);
            } else if (way == 1) {
                Check.due("bar(1000) without elements", mixer.bar(1000), 0);
            } else {
                mixer.auto();
                mixer.pass(25);
                Check.due("runs() without elements", mixer.runs(), 1);
            }
            settings("completed without elements", mixer, 1, 2, 0, 25, 0, 0, NONE);
            Check.due("keyer(0, 3)", mixer.keyer(0, 3), 0);
            Check.due("keyer(1, 3)", mixer.keyer(1, 3), 1);
        }
    }

    /** "the position becomes 0, and there is no run": so no frame completes it once more. */
    private static void completingARunEndsIt() {
        VisionMixer mixer = new VisionMixer();
        mixer.auto();
        mixer.pass(24);
        Check.due("cut()", mixer.cut(), 2);
        mixer.pass(1);
        settings("the frame behind it", mixer, 2, 1, 0, 25, 1, 0, NONE, 25);
        mixer.pass(500);
        settings("many frames behind it", mixer, 2, 1, 0, 25, 1, 0, NONE, 525);
        Check.due("runs()", mixer.runs(), 0);
    }

    /** "Time is counted in frames, from 0."; "if the time would be above 5000" */
    private static void time0To5000() {
        VisionMixer mixer = new VisionMixer();
        Check.due("setting(7)", mixer.setting(7), 0);
        for (int time = 1; time <= 3; time++) {
            Check.due("pass(1)", mixer.pass(1), time);
            Check.due("setting(7)", mixer.setting(7), time);
        }
        Check.due("pass(499)", mixer.pass(499), 502);
        for (int time = 1002; time <= 4502; time += 500) {
            Check.due("pass(500)", mixer.pass(500), time);
        }
        Check.dueText("pass(499) at 4502", Check.outcome(() -> mixer.pass(499)), "IllegalStateException");
        Check.due("pass(498) at 4502", mixer.pass(498), 5000);
        Check.dueText("pass(1) at 5000", Check.outcome(() -> mixer.pass(1)), "IllegalStateException");
        mixer.program(8);
        Check.due("an act at 5000", mixer.act(0, 0), 5000);
        Check.due("settingAt(4999, 0)", mixer.settingAt(4999, 0), 1);
        Check.due("settingAt(5000, 0)", mixer.settingAt(5000, 0), 8);
    }

    /** pass(0): no frame passes. */
    private static void noFrames() {
        VisionMixer mixer = new VisionMixer();
        mixer.transition(0, 5);
        mixer.auto();
        Check.due("pass(0)", mixer.pass(0), 0);
        settings("no frames of a run", mixer, 1, 2, 0, 5, 1, 0, 0, 0);
        mixer.pass(2);
        mixer.transition(0, 4);
        Check.due("pass(0)", mixer.pass(0), 2);
        settings("the position stays until the next frame", mixer, 1, 2, 0, 4, 1, 400, 2, 2);
        mixer.transition(0, 2);
        Check.due("pass(0)", mixer.pass(0), 2);
        settings("no frame, no completing", mixer, 1, 2, 0, 2, 1, 400, 2, 2);
        mixer.pass(1);
        settings("the next frame", mixer, 2, 1, 0, 2, 1, 0, NONE, 3);
    }

    /** Without a run, a frame changes the time alone. */
    private static void noRunNoPosition() {
        VisionMixer mixer = new VisionMixer();
        for (int position : new int[] {0, 1, 999}) {
            mixer.bar(position);
            mixer.pass(1);
            settings("a frame at " + position, mixer, 1, 2, 0, 25, 1, position, NONE);
            mixer.pass(500);
            settings("500 frames at " + position, mixer, 1, 2, 0, 25, 1, position, NONE);
        }
        Check.due("setting(7)", mixer.setting(7), 1503);
        Check.due("runs()", mixer.runs(), 0);
    }

    /** "if f is the rate (or greater), the transition is completed, otherwise the position becomes f * 1000 / rate" */
    private static void everyFrameOfEveryRate() {
        for (int rate = 1; rate <= 100; rate++) {
            VisionMixer mixer = new VisionMixer();
            mixer.transition(1, rate);
            Check.due("auto() at rate " + rate, mixer.auto(), rate);
            for (int f = 1; f < rate; f++) {
                mixer.pass(1);
                int position = mixer.setting(5);
                boolean roundedDown = position * rate <= f * 1000 && (position + 1) * rate > f * 1000;
                Check.due("position " + position + ", frame " + f + " of " + rate, roundedDown ? 1 : 0, 1);
                Check.due("run, frame " + f + " of " + rate, mixer.setting(6), f);
            }
            Check.due("program before the last frame of " + rate, mixer.setting(0), 1);
            mixer.pass(1);
            settings("the last frame of " + rate, mixer, 2, 1, 1, rate, 1, 0, NONE, rate);
            mixer.pass(1);
            settings("the frame behind it", mixer, 2, 1, 1, rate, 1, 0, NONE, rate + 1);
        }
    }

    /** The rate becomes f + 2, f + 1 (which the next frame is), f, or less than f, when f frames have passed. */
    private static void aRateThatTheRunHasReached() {
        int[][] due = {{12, 916}, {11, 0}, {10, 0}, {9, 0}, {1, 0}, {100, 110}};
        for (int[] row : due) {
            VisionMixer mixer = new VisionMixer();
            mixer.transition(0, 20);
            mixer.auto();
            mixer.pass(10);
            mixer.transition(0, row[0]);
            settings("rate " + row[0] + " at 10 frames", mixer, 1, 2, 0, row[0], 1, 500, 10, 10);
            mixer.pass(1);
            boolean completed = row[1] == 0;
            settings("rate " + row[0] + ", the next frame", mixer, completed ? 2 : 1, completed ? 1 : 2, 0, row[0], 1,
                row[1], completed ? NONE : 11, 11);
            Check.due("runs() at rate " + row[0], mixer.runs(), completed ? 1 : 0);
        }
    }

    private static void theLastFrameOfARunWithinAPass() {
        for (int frames : new int[] {24, 25, 26, 500}) {
            VisionMixer mixer = new VisionMixer();
            mixer.auto();
            Check.due("pass(" + frames + ")", mixer.pass(frames), frames);
            int program = frames < 25 ? 1 : 2;
            settings("a run and pass(" + frames + ")", mixer, program, 3 - program, 0, 25, 1, frames < 25 ? 960 : 0,
                frames < 25 ? 24 : NONE, frames, 1);
            Check.due("runs()", mixer.runs(), frames < 25 ? 0 : 1);
        }
    }

    /** "6 the frames of the run (NONE without one)", "8 the number of acts in the log" */
    private static void settingsEdges() {
        VisionMixer mixer = new VisionMixer();
        Check.due("setting(6) without a run", mixer.setting(6), NONE);
        Check.due("setting(8), empty", mixer.setting(8), 0);
        mixer.transition(0, 2);
        mixer.auto();
        Check.due("setting(6), just begun", mixer.setting(6), 0);
        mixer.pass(1);
        Check.due("setting(6), 1 frame", mixer.setting(6), 1);
        mixer.pass(1);
        Check.due("setting(6), completed", mixer.setting(6), NONE);
        mixer.bar(1);
        Check.due("setting(6) by hand", mixer.setting(6), NONE);
        Check.due("setting(8), full", Twins.fullLog().setting(8), 100);
    }
}
