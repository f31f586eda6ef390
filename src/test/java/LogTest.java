/** Promises 24 to 28: the log, and what it would be without an act. */
final class LogTest {
    private static final Class<IndexOutOfBoundsException> INDEX = IndexOutOfBoundsException.class;
    private static final Class<IllegalArgumentException> ARGUMENT = IllegalArgumentException.class;
    private static final Class<IllegalStateException> STATE = IllegalStateException.class;

    public static void main(String[] args) {
        promise24Act();
        promise25TakeOut();
        promise25ActsThatAreNotPossible();
        promise25FullLog();
        promise26Undo();
        promise27RedWithout();
        promise28Idle();
        Check.end();
    }

    private static void actIs(VisionMixer mixer, int act, int... due) {
        for (int what = 0; what <= 3; what++) {
            Check.due("act(" + act + ", " + what + ")", mixer.act(act, what), due[what]);
        }
    }

    private static void promise24Act() {
        VisionMixer mixer = new VisionMixer();
        mixer.program(4);
        mixer.preview(5);
        mixer.pass(7);
        mixer.transition(2, 30);
        mixer.next(3);
        mixer.key(2, 8, 90, 80);
        mixer.pass(1);
        mixer.toggle(1);
        mixer.cut();
        mixer.auto();
        mixer.pass(500);
        mixer.bar(250);
        mixer.fault(6, true);
        mixer.fault(7, false);
        int none = VisionMixer.NONE;
        actIs(mixer, 0, 0, 0, 4, none);
        actIs(mixer, 1, 0, 1, 5, none);
        actIs(mixer, 2, 7, 2, 2, 30);
        actIs(mixer, 3, 7, 3, 3, none);
        actIs(mixer, 4, 7, 4, 2, 8);
        actIs(mixer, 5, 8, 5, 1, none);
        actIs(mixer, 6, 8, 6, none, none);
        actIs(mixer, 7, 8, 7, none, none);
        actIs(mixer, 8, 508, 8, 250, none);
        actIs(mixer, 9, 508, 9, 6, 1);
        actIs(mixer, 10, 508, 9, 7, 0);
        Check.refused("act(11, 0)", mixer, INDEX, () -> mixer.act(11, 0));
        Check.refused("act(-1, 0)", mixer, INDEX, () -> mixer.act(-1, 0));
        Check.refused("act(11, 4)", mixer, INDEX, () -> mixer.act(11, 4));
        Check.refused("act(10, 4)", mixer, ARGUMENT, () -> mixer.act(10, 4));
        Check.refused("act(0, -1)", mixer, ARGUMENT, () -> mixer.act(0, -1));
        VisionMixer empty = new VisionMixer();
        Check.refused("act(0, 0) of no acts", empty, INDEX, () -> empty.act(0, 0));
    }

    private static void promise25TakeOut() {
        VisionMixer mixer = new VisionMixer();
        mixer.program(4);
        mixer.pass(5);
        mixer.toggle(0);
        mixer.pass(5);
        mixer.cut();
        mixer.key(1, 9, 10, 20);
        Check.due("takeOut(1)", mixer.takeOut(1), 3);
        Check.due("keyer(0, 3)", mixer.keyer(0, 3), 0);
        Check.due("the time stays", mixer.setting(7), 10);
        actIs(mixer, 0, 0, 0, 4, -1);
        actIs(mixer, 1, 10, 6, -1, -1);
        actIs(mixer, 2, 10, 4, 1, 9);
        Check.due("keyer(1, 1), replayed", mixer.keyer(1, 1), 10);
        Check.due("keyer(1, 2), replayed", mixer.keyer(1, 2), 20);
        Check.due("takeOut(0)", mixer.takeOut(0), 2);
        Check.due("setting(0)", mixer.setting(0), 2);
        Check.due("setting(1)", mixer.setting(1), 1);
        Check.refused("takeOut(2)", mixer, INDEX, () -> mixer.takeOut(2));
        Check.refused("takeOut(-1)", mixer, INDEX, () -> mixer.takeOut(-1));
        Check.due("takeOut(1), the last", mixer.takeOut(1), 1);
        Check.due("takeOut(0), the only one", mixer.takeOut(0), 0);
        Check.refused("takeOut(0) of no acts", mixer, INDEX, () -> mixer.takeOut(0));
        Check.due("keyer(1, 0)", mixer.keyer(1, 0), 4);
        VisionMixer fault = new VisionMixer();
        fault.fault(1, true);
        Check.write(fault, "c;");
        fault.takeOut(0);
        Check.due("the fault is taken back", fault.faulty(), 0.0);
        Check.due("the text stays", fault.clearText(), 2);
    }

    private static void promise25ActsThatAreNotPossible() {
        VisionMixer mixer = new VisionMixer();
        mixer.transition(0, 10);
        mixer.auto();
        mixer.pass(3);
        mixer.cut();
        mixer.next(3);
        mixer.bar(600);
        mixer.pass(2);
        // without the cut the run goes on: next() and bar() are not possible then
        Check.due("takeOut(2)", mixer.takeOut(2), 4);
        int[] due = {1, 2, 0, 10, 1, 500, 5, 5, 4};
        for (int what = 0; what <= 8; what++) {
            Check.due("setting(" + what + ")", mixer.setting(what), due[what]);
        }
        actIs(mixer, 2, 3, 3, 3, -1);
        actIs(mixer, 3, 3, 8, 600, -1);
        // without the auto they are possible again
        mixer.takeOut(1);
        Check.due("setting(4)", mixer.setting(4), 3);
        Check.due("setting(5)", mixer.setting(5), 600);
        VisionMixer auto = new VisionMixer();
        auto.bar(10);
        auto.bar(0);
        auto.auto();
        auto.pass(50);
        Check.due("program behind auto()", auto.setting(0), 2);
        auto.takeOut(1);
        Check.due("auto() was not possible", auto.setting(0), 1);
        Check.due("the position", auto.setting(5), 10);
        Check.due("it stays in the log", auto.act(1, 1), 7);
    }

    private static void promise25FullLog() {
        VisionMixer full = Check.fullMixer();
        full.takeOut(99);
        Check.due("room again", full.program(8), 1);
        Check.due("full again", full.setting(8), 100);
        full.pass(4);
        Check.due("the hundredth act is replayed", full.settingAt(2, 0), 8);
        Check.due("the hundredth act", full.act(99, 2), 8);
        Check.due("takeOut(0) of 100", full.takeOut(0), 99);
        Check.due("program then", full.setting(0), 8);
        full.cut();
        Check.due("act(99, 0)", full.act(99, 0), 4);
    }

    private static void promise26Undo() {
        VisionMixer mixer = new VisionMixer();
        Check.refused("undo() of no acts", mixer, STATE, () -> mixer.undo());
        mixer.program(4);
        mixer.pass(5);
        mixer.auto();
        mixer.pass(30);
        Check.due("program", mixer.setting(0), 2);
        Check.due("undo()", mixer.undo(), 1);
        Check.due("the run is taken back", mixer.setting(0), 4);
        Check.due("the time stays", mixer.setting(7), 35);
        Check.due("undo() again", mixer.undo(), 0);
        Check.due("program of a new one", mixer.setting(0), 1);
        Check.refused("undo() a third time", mixer, STATE, () -> mixer.undo());
        mixer.pass(1);
        mixer.cut();
        Check.due("act(0, 0)", mixer.act(0, 0), 36);
    }

    private static void promise27RedWithout() {
        VisionMixer mixer = new VisionMixer();
        mixer.program(0);
        mixer.toggle(2);
        mixer.bar(500);
        mixer.pass(10);
        Check.due("redWithout(0)", mixer.redWithout(0), 1 << 1 | 1 << 2 | 1 << 5);
        Check.due("redWithout(1)", mixer.redWithout(1), 1 << 0 | 1 << 2);
        Check.due("redWithout(2)", mixer.redWithout(2), 1 << 0 | 1 << 5);
        mixer.program(9);
        Check.due("redWithout(3)", mixer.redWithout(3), 1 << 0 | 1 << 2 | 1 << 5);
        Check.due("redWithout(1) with source 9", mixer.redWithout(1), 1 << 9 | 1 << 2);
        Check.due("nothing is taken out", mixer.setting(8), 4);
        Check.refused("redWithout(-1)", mixer, INDEX, () -> mixer.redWithout(-1));
        Check.refused("redWithout(4)", mixer, INDEX, () -> mixer.redWithout(4));
    }

    private static void promise28Idle() {
        VisionMixer mixer = new VisionMixer();
        Check.due("idle() of no acts", mixer.idle(), 0);
        mixer.preview(5);
        Check.due("a preview is not seen", mixer.idle(), 1);
        mixer.fault(1, true);
        Check.due("faults do not matter", mixer.idle(), 2);
        mixer.program(4);
        Check.due("a program is seen", mixer.idle(), 2);
        mixer.program(4);
        Check.due("one of two programs can go", mixer.idle(), 4);
        mixer.toggle(0);
        Check.due("a keyer is seen", mixer.idle(), 4);
        mixer.key(0, 3, 99, 99);
        Check.due("a share that changes counts", mixer.idle(), 4);
        mixer.key(0, 3, 99, 99);
        Check.due("two equal keys", mixer.idle(), 6);
        mixer.cut();
        Check.due("the preview is seen then", mixer.idle(), 5);
        Check.due("idle() of 100 acts", Check.fullMixer().idle(), 100);
    }
}
