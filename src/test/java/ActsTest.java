/** Promises 1 to 12: a new object, the acts, and pass(). */
final class ActsTest {
    private static final Class<IndexOutOfBoundsException> INDEX = IndexOutOfBoundsException.class;
    private static final Class<IllegalArgumentException> ARGUMENT = IllegalArgumentException.class;
    private static final Class<IllegalStateException> STATE = IllegalStateException.class;

    public static void main(String[] args) {
        promise1NewObject();
        promise2Program();
        promise3Preview();
        promise4Transition();
        promise5Next();
        promise6Key();
        promise7Toggle();
        promise8Cut();
        promise9Auto();
        promise10Bar();
        promise11Fault();
        promise12Pass();
        completingByEachWay();
        Check.end();
    }

    private static void settings(String when, VisionMixer mixer, int... due) {
        for (int what = 0; what < due.length; what++) {
            Check.due(when + ": setting(" + what + ")", mixer.setting(what), due[what]);
        }
    }

    private static void keyerIs(String when, VisionMixer mixer, int keyer, int... due) {
        for (int what = 0; what < due.length; what++) {
            Check.due(when + ": keyer(" + keyer + ", " + what + ")", mixer.keyer(keyer, what), due[what]);
        }
    }

    private static void promise1NewObject() {
        VisionMixer mixer = new VisionMixer();
        settings("new", mixer, 1, 2, 0, 25, 1, 0, VisionMixer.NONE, 0, 0);
        for (int keyer = 0; keyer < 3; keyer++) {
            keyerIs("new", mixer, keyer, 3 + keyer, 100, 25, 0);
        }
        Check.due("new: faulty()", mixer.faulty(), 0.0);
        Check.due("new: clearText()", mixer.clearText(), 0);
        Check.due("new: runs()", mixer.runs(), 0);
        VisionMixer other = new VisionMixer();
        mixer.program(7);
        settings("another new one", other, 1, 2, 0, 25, 1, 0, -1, 0, 0);
    }

    private static void promise2Program() {
        VisionMixer mixer = new VisionMixer();
        Check.due("program(9)", mixer.program(9), 1);
        Check.due("program(0)", mixer.program(0), 9);
        settings("program(0)", mixer, 0, 2, 0, 25, 1, 0, -1, 0, 2);
        mixer.bar(300);
        Check.due("program(4) under way", mixer.program(4), 0);
        settings("program(4)", mixer, 4, 2, 0, 25, 1, 300, -1, 0, 4);
        Check.refused("program(-1)", mixer, INDEX, () -> mixer.program(-1));
        Check.refused("program(10)", mixer, INDEX, () -> mixer.program(10));
        Check.refused("program(MIN)", mixer, INDEX, () -> mixer.program(Integer.MIN_VALUE));
        VisionMixer full = Check.fullMixer();
        Check.refused("program(1), full", full, STATE, () -> full.program(1));
        Check.refused("program(10), full", full, INDEX, () -> full.program(10));
    }

    private static void promise3Preview() {
        VisionMixer mixer = new VisionMixer();
        Check.due("preview(0)", mixer.preview(0), 2);
        Check.due("preview(9)", mixer.preview(9), 0);
        settings("preview(9)", mixer, 1, 9, 0, 25, 1, 0, -1, 0, 2);
        Check.refused("preview(-1)", mixer, INDEX, () -> mixer.preview(-1));
        Check.refused("preview(10)", mixer, INDEX, () -> mixer.preview(10));
        VisionMixer full = Check.fullMixer();
        Check.due("setting(8), full", full.setting(8), 100);
        Check.refused("preview(1), full", full, STATE, () -> full.preview(1));
        Check.refused("preview(-1), full", full, INDEX, () -> full.preview(-1));
    }

    private static void promise4Transition() {
        VisionMixer mixer = new VisionMixer();
        Check.due("transition(2, 100)", mixer.transition(2, 100), 0);
        Check.due("transition(1, 1)", mixer.transition(1, 1), 2);
        Check.due("transition(0, 10)", mixer.transition(0, 10), 1);
        settings("transition(0, 10)", mixer, 1, 2, 0, 10, 1, 0, -1, 0, 3);
        mixer.auto();
        mixer.pass(5);
        Check.due("transition(1, 20) under way", mixer.transition(1, 20), 0);
        settings("the position stays", mixer, 1, 2, 1, 20, 1, 500, 5, 5, 5);
        mixer.pass(1);
        settings("until the next frame", mixer, 1, 2, 1, 20, 1, 300, 6, 6, 5);
        mixer.transition(1, 3);
        settings("a rate below the run", mixer, 1, 2, 1, 3, 1, 300, 6, 6, 6);
        mixer.pass(1);
        settings("is completed by the next frame", mixer, 2, 1, 1, 3, 1, 0, -1, 7, 6);
        Check.refused("transition(-1, 5)", mixer, ARGUMENT, () -> mixer.transition(-1, 5));
        Check.refused("transition(3, 5)", mixer, ARGUMENT, () -> mixer.transition(3, 5));
        Check.refused("transition(0, 0)", mixer, ARGUMENT, () -> mixer.transition(0, 0));
        Check.refused("transition(0, 101)", mixer, ARGUMENT, () -> mixer.transition(0, 101));
        VisionMixer full = Check.fullMixer();
        Check.refused("transition(0, 25), full", full, STATE, () -> full.transition(0, 25));
        Check.refused("transition(0, 101), full", full, ARGUMENT, () -> full.transition(0, 101));
    }

    private static void promise5Next() {
        VisionMixer mixer = new VisionMixer();
        Check.due("next(15)", mixer.next(15), 1);
        Check.due("next(0)", mixer.next(0), 15);
        Check.due("next(6)", mixer.next(6), 0);
        settings("next(6)", mixer, 1, 2, 0, 25, 6, 0, -1, 0, 3);
        Check.refused("next(-1)", mixer, ARGUMENT, () -> mixer.next(-1));
        Check.refused("next(16)", mixer, ARGUMENT, () -> mixer.next(16));
        mixer.bar(1);
        Check.refused("next(1), position 1", mixer, STATE, () -> mixer.next(1));
        Check.refused("next(16), position 1", mixer, ARGUMENT, () -> mixer.next(16));
        mixer.bar(0);
        Check.due("next(1), position 0 again", mixer.next(1), 6);
        mixer.auto();
        Check.refused("next(1), run of 0 frames", mixer, STATE, () -> mixer.next(1));
        VisionMixer full = Check.fullMixer();
        Check.refused("next(1), full", full, STATE, () -> full.next(1));
        Check.refused("next(16), full", full, ARGUMENT, () -> full.next(16));
    }

    private static void promise6Key() {
        VisionMixer mixer = new VisionMixer();
        Check.due("key(2, 9, 0, 100)", mixer.key(2, 9, 0, 100), 5);
        Check.due("key(2, 0, 100, 1)", mixer.key(2, 0, 100, 1), 9);
        Check.due("key(0, 7, 50, 60)", mixer.key(0, 7, 50, 60), 3);
        keyerIs("key", mixer, 0, 7, 50, 60, 0);
        keyerIs("key", mixer, 1, 4, 100, 25, 0);
        keyerIs("key", mixer, 2, 0, 100, 1, 0);
        mixer.toggle(0);
        mixer.key(0, 1, 2, 3);
        keyerIs("key while on", mixer, 0, 1, 2, 3, 1);
        Check.refused("key(-1, 1, 1, 1)", mixer, INDEX, () -> mixer.key(-1, 1, 1, 1));
        Check.refused("key(3, 1, 1, 1)", mixer, INDEX, () -> mixer.key(3, 1, 1, 1));
        Check.refused("key(0, -1, 1, 1)", mixer, INDEX, () -> mixer.key(0, -1, 1, 1));
        Check.refused("key(0, 10, 1, 1)", mixer, INDEX, () -> mixer.key(0, 10, 1, 1));
        Check.refused("key(0, 10, 101, 0)", mixer, INDEX, () -> mixer.key(0, 10, 101, 0));
        Check.refused("key(0, 1, -1, 1)", mixer, ARGUMENT, () -> mixer.key(0, 1, -1, 1));
        Check.refused("key(0, 1, 101, 1)", mixer, ARGUMENT, () -> mixer.key(0, 1, 101, 1));
        Check.refused("key(0, 1, 1, 0)", mixer, ARGUMENT, () -> mixer.key(0, 1, 1, 0));
        Check.refused("key(0, 1, 1, 101)", mixer, ARGUMENT, () -> mixer.key(0, 1, 1, 101));
        VisionMixer full = Check.fullMixer();
        Check.refused("key(0, 1, 1, 1), full", full, STATE, () -> full.key(0, 1, 1, 1));
        Check.refused("key(0, 1, 1, 101), full", full, ARGUMENT, () -> full.key(0, 1, 1, 101));
        Check.refused("key(3, 1, 1, 1), full", full, INDEX, () -> full.key(3, 1, 1, 1));
    }

    private static void promise7Toggle() {
        VisionMixer mixer = new VisionMixer();
        for (int keyer = 0; keyer < 3; keyer++) {
            Check.due("toggle(" + keyer + ")", mixer.toggle(keyer), 1);
        }
        Check.due("toggle(1) again", mixer.toggle(1), 0);
        keyerIs("toggle", mixer, 0, 3, 100, 25, 1);
        keyerIs("toggle", mixer, 1, 4, 100, 25, 0);
        keyerIs("toggle", mixer, 2, 5, 100, 25, 1);
        settings("toggle", mixer, 1, 2, 0, 25, 1, 0, -1, 0, 4);
        Check.refused("toggle(-1)", mixer, INDEX, () -> mixer.toggle(-1));
        Check.refused("toggle(3)", mixer, INDEX, () -> mixer.toggle(3));
        VisionMixer full = Check.fullMixer();
        Check.refused("toggle(0), full", full, STATE, () -> full.toggle(0));
        Check.refused("toggle(3), full", full, INDEX, () -> full.toggle(3));
    }

    private static void promise8Cut() {
        VisionMixer mixer = new VisionMixer();
        Check.due("cut()", mixer.cut(), 2);
        settings("cut()", mixer, 2, 1, 0, 25, 1, 0, -1, 0, 1);
        mixer.auto();
        mixer.pass(10);
        Check.due("cut() of a run", mixer.cut(), 1);
        settings("cut() of a run", mixer, 1, 2, 0, 25, 1, 0, -1, 10, 3);
        mixer.next(4);
        mixer.bar(999);
        Check.due("cut() without the background", mixer.cut(), 1);
        settings("cut() without the background", mixer, 1, 2, 0, 25, 4, 0, -1, 10, 6);
        Check.due("keyer(1, 3)", mixer.keyer(1, 3), 1);
        Check.due("keyer(0, 3)", mixer.keyer(0, 3), 0);
        VisionMixer full = Check.fullMixer();
        Check.refused("cut(), full", full, STATE, () -> full.cut());
    }

    private static void promise9Auto() {
        VisionMixer mixer = new VisionMixer();
        mixer.transition(0, 3);
        Check.due("auto()", mixer.auto(), 3);
        settings("auto()", mixer, 1, 2, 0, 3, 1, 0, 0, 0, 2);
        Check.refused("auto() in a run", mixer, STATE, () -> mixer.auto());
        mixer.pass(1);
        settings("1 frame", mixer, 1, 2, 0, 3, 1, 333, 1, 1, 2);
        mixer.pass(1);
        settings("2 frames", mixer, 1, 2, 0, 3, 1, 666, 2, 2, 2);
        mixer.pass(1);
        settings("3 frames", mixer, 2, 1, 0, 3, 1, 0, -1, 3, 2);
        mixer.bar(1);
        Check.refused("auto() at position 1", mixer, STATE, () -> mixer.auto());
        mixer.bar(0);
        mixer.transition(0, 1);
        Check.due("auto() at rate 1", mixer.auto(), 1);
        mixer.pass(1);
        settings("rate 1", mixer, 1, 2, 0, 1, 1, 0, -1, 4, 6);
        VisionMixer full = Check.fullMixer();
        Check.refused("auto(), full", full, STATE, () -> full.auto());
    }

    private static void promise10Bar() {
        VisionMixer mixer = new VisionMixer();
        Check.due("bar(999)", mixer.bar(999), 0);
        Check.due("bar(1)", mixer.bar(1), 999);
        mixer.pass(50);
        settings("bar(1)", mixer, 1, 2, 0, 25, 1, 1, -1, 50, 2);
        Check.due("bar(1000)", mixer.bar(1000), 1);
        settings("bar(1000)", mixer, 2, 1, 0, 25, 1, 0, -1, 50, 3);
        Check.due("bar(1000) again", mixer.bar(1000), 0);
        settings("bar(1000) again", mixer, 1, 2, 0, 25, 1, 0, -1, 50, 4);
        Check.due("bar(0)", mixer.bar(0), 0);
        Check.refused("bar(-1)", mixer, ARGUMENT, () -> mixer.bar(-1));
        Check.refused("bar(1001)", mixer, ARGUMENT, () -> mixer.bar(1001));
        mixer.auto();
        Check.refused("bar(0) in a run", mixer, STATE, () -> mixer.bar(0));
        Check.refused("bar(1000) in a run", mixer, STATE, () -> mixer.bar(1000));
        Check.refused("bar(1001) in a run", mixer, ARGUMENT, () -> mixer.bar(1001));
        VisionMixer full = Check.fullMixer();
        Check.refused("bar(0), full", full, STATE, () -> full.bar(0));
        Check.refused("bar(1001), full", full, ARGUMENT, () -> full.bar(1001));
    }

    private static void promise11Fault() {
        VisionMixer mixer = new VisionMixer();
        Check.due("fault(1, true)", mixer.fault(1, true), 0);
        Check.due("fault(1, true) again", mixer.fault(1, true), 1);
        Check.due("fault(9, false)", mixer.fault(9, false), 0);
        Check.due("faulty()", mixer.faulty(), 1.0);
        Check.due("fault(1, false)", mixer.fault(1, false), 1);
        Check.due("fault(1, false) again", mixer.fault(1, false), 0);
        Check.due("faulty() then", mixer.faulty(), 0.0);
        Check.due("setting(8)", mixer.setting(8), 5);
        Check.refused("fault(0, true)", mixer, INDEX, () -> mixer.fault(0, true));
        Check.refused("fault(0, false)", mixer, INDEX, () -> mixer.fault(0, false));
        Check.refused("fault(-1, true)", mixer, INDEX, () -> mixer.fault(-1, true));
        Check.refused("fault(10, true)", mixer, INDEX, () -> mixer.fault(10, true));
        VisionMixer full = Check.fullMixer();
        Check.refused("fault(1, true), full", full, STATE, () -> full.fault(1, true));
        Check.refused("fault(0, true), full", full, INDEX, () -> full.fault(0, true));
    }

    private static void promise12Pass() {
        VisionMixer mixer = new VisionMixer();
        Check.due("pass(0)", mixer.pass(0), 0);
        Check.due("pass(500)", mixer.pass(500), 500);
        Check.due("setting(8)", mixer.setting(8), 0);
        Check.refused("pass(-1)", mixer, ARGUMENT, () -> mixer.pass(-1));
        Check.refused("pass(501)", mixer, ARGUMENT, () -> mixer.pass(501));
        Check.refused("pass(MAX)", mixer, ARGUMENT, () -> mixer.pass(Integer.MAX_VALUE));
        for (int time = 1000; time <= 4500; time += 500) {
            Check.due("pass(500)", mixer.pass(500), time);
        }
        mixer.pass(490);
        mixer.auto();
        Check.refused("pass(11) at 4990", mixer, STATE, () -> mixer.pass(11));
        Check.refused("pass(501) at 4990", mixer, ARGUMENT, () -> mixer.pass(501));
        Check.due("pass(10) at 4990", mixer.pass(10), 5000);
        settings("at 5000", mixer, 1, 2, 0, 25, 1, 400, 10, 5000, 1);
        Check.refused("pass(1) at 5000", mixer, STATE, () -> mixer.pass(1));
        Check.due("pass(0) at 5000", mixer.pass(0), 5000);
        VisionMixer full = Check.fullMixer();
        Check.due("pass(5), full", full.pass(5), 5);
        VisionMixer longPass = new VisionMixer();
        longPass.auto();
        longPass.pass(24);
        settings("24 frames", longPass, 1, 2, 0, 25, 1, 960, 24, 24, 1);
        longPass.pass(400);
        settings("a run ends within a pass", longPass, 2, 1, 0, 25, 1, 0, -1, 424, 1);
    }

    private static void completingByEachWay() {
        for (int way = 0; way < 3; way++) {
            VisionMixer mixer = new VisionMixer();
            mixer.toggle(0);
            mixer.toggle(1);
            mixer.next(11);
            if (way == 0) {
                mixer.cut();
            } else if (way == 1) {
                mixer.bar(1000);
            } else {
                mixer.auto();
                mixer.pass(25);
            }
            settings("completed", mixer, 2, 1, 0, 25, 11, 0, -1);
            Check.due("keyer 0 was on, moves", mixer.keyer(0, 3), 0);
            Check.due("keyer 1 was on, stays", mixer.keyer(1, 3), 1);
            Check.due("keyer 2 was off, moves", mixer.keyer(2, 3), 1);
        }
    }
}
