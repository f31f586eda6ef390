/** Mixers with a past, and all that can be asked of one: so that two of them, made alike, can be compared. */
final class Twins {
    interface Maker {
        VisionMixer make();
    }

    interface Call {
        long on(VisionMixer mixer);
    }

    static final int MIN = Integer.MIN_VALUE;
    static final int MAX = Integer.MAX_VALUE;
    static final Class<IndexOutOfBoundsException> INDEX = IndexOutOfBoundsException.class;
    static final Class<IllegalArgumentException> ARGUMENT = IllegalArgumentException.class;
    static final Class<IllegalStateException> STATE = IllegalStateException.class;

    private Twins() {
    }

    /** One of two twins is given the call: it must throw just that exception, and stay like the other. */
    static void refused(String call, Maker maker, Class<? extends RuntimeException> due, Call made) {
        VisionMixer mixer = maker.make();
        Check.dueText(call, Check.outcome(() -> made.on(mixer)), due.getSimpleName());
        Check.dueText("all answers behind " + call, allAnswers(mixer), allAnswers(maker.make()));
    }

    /** Both twins are given their calls: then they must be alike in every answer. */
    static void alike(String what, VisionMixer one, VisionMixer other) {
        Check.dueText(what, allAnswers(one), allAnswers(other));
    }

    /** At most some 260 calls, the last of which take everything back: the mixer is used up then. */
    static String allAnswers(VisionMixer mixer) {
        StringBuilder all = new StringBuilder();
        tell(all, mixer);
        tellPast(all, mixer);
        all.append(" text:").append(mixer.carryOut()).append(' ').append(mixer.digest());
        all.append(' ').append(mixer.clearText());
        for (int i = 0; i < 3 && mixer.setting(8) > 0; i++) {
            all.append(" undo:").append(mixer.undo()).append(' ').append(mixer.digest());
        }
        for (int source = 1; source <= 9; source++) {
            int faulty = source;
            all.append(" fault:").append(Check.outcome(() -> mixer.fault(faulty, true)));
        }
        // the arguments of key() that act() does not tell are seen when it is replayed
        for (int acts = mixer.setting(8); acts > 0; acts -= acts > 30 ? 5 : 1) {
            int takenOut = acts > 30 ? 5 : 1;
            for (int i = 0; i < takenOut; i++) {
                mixer.undo();
            }
            all.append(' ').append(mixer.digest());
        }
        return all.toString();
    }

    private static void tell(StringBuilder all, VisionMixer mixer) {
        all.append(mixer.digest()).append(" faulty:").append(mixer.faulty());
        all.append(" runs:").append(mixer.runs()).append(" shot:").append(mixer.longestShot());
        all.append(" idle:").append(mixer.idle());
    }

    private static void tellPast(StringBuilder all, VisionMixer mixer) {
        int now = mixer.setting(7);
        int acts = mixer.setting(8);
        for (int source = 0; source <= 9; source++) {
            all.append(' ').append(mixer.timesRed(source)).append('/').append(mixer.firstRed(source));
        }
        int[] times = {0, now / 3, now * 2 / 3, now};
        for (int time : times) {
            for (int what = 0; what <= 6; what++) {
                all.append(' ').append(mixer.settingAt(time, what));
            }
            all.append(" share:").append(mixer.shareAt(time, mixer.setting(0)));
        }
        for (int act = 0; act < acts; act += 1 + acts / 8) {
            all.append(" without:").append(mixer.redWithout(act));
        }
    }

    /** All ten acts are in its past; the position was set by hand, three sources are faulty, a text is there. */
    static VisionMixer byHand() {
        VisionMixer mixer = new VisionMixer();
        mixer.program(6);
        mixer.key(1, 8, 40, 60);
        mixer.fault(8, true);
        mixer.pass(7);
        mixer.preview(7);
        mixer.transition(2, 10);
        mixer.next(5);
        mixer.fault(5, true);
        mixer.auto();
        mixer.pass(25);
        mixer.toggle(0);
        mixer.cut();
        mixer.pass(11);
        mixer.fault(9, true);
        mixer.bar(250);
        mixer.pass(2);
        Check.write(mixer, "p3;w2;k112;n1");
        return mixer;
    }

    /** Its run has passed 4 of 9 frames. */
    static VisionMixer inRun() {
        VisionMixer mixer = new VisionMixer();
        mixer.toggle(2);
        mixer.pass(3);
        mixer.cut();
        mixer.transition(1, 9);
        mixer.next(9);
        mixer.key(2, 0, 77, 66);
        mixer.auto();
        mixer.pass(4);
        Check.write(mixer, "c;b40;w6;");
        return mixer;
    }

    /** No transition is under way: that an act is refused has no other cause than the number of acts. */
    static VisionMixer withActs(int acts) {
        VisionMixer mixer = new VisionMixer();
        mixer.fault(4, true);
        mixer.key(0, 4, 90, 80);
        mixer.toggle(0);
        mixer.pass(6);
        for (int i = 3; i < acts; i++) {
            mixer.preview(i % 10);
        }
        mixer.pass(1);
        Check.write(mixer, "w3;");
        return mixer;
    }

    static VisionMixer fullLog() {
        return withActs(100);
    }

    /** A full log, and a run besides. */
    static VisionMixer fullLogInRun() {
        VisionMixer mixer = withActs(99);
        mixer.auto();
        mixer.pass(5);
        return mixer;
    }

    static VisionMixer atTime(int time) {
        VisionMixer mixer = new VisionMixer();
        mixer.program(3);
        for (int passed = 0; passed < time; passed += Math.min(500, time - passed)) {
            mixer.pass(Math.min(500, time - passed));
        }
        mixer.transition(0, 100);
        mixer.auto();
        return mixer;
    }

    static VisionMixer withText(int length) {
        VisionMixer mixer = new VisionMixer();
        mixer.toggle(1);
        for (int i = 0; i < length; i++) {
            mixer.append("c;".charAt(i % 2));
        }
        return mixer;
    }
}
