/** What the tests share: compares answers, counts what is wrong, and ends the test. */
final class Check {
    interface Call {
        long answer();
    }

    private static int wrong = 0;
    private static int looked = 0;

    private Check() {
    }

    static void due(String call, long got, long want) {
        looked++;
        if (got != want) {
            wrong++;
            System.out.println(call + " answered " + got + ", due is " + want);
        }
    }

    static void due(String call, double got, double want) {
        looked++;
        if (got != want) {
            wrong++;
            System.out.println(call + " answered " + got + ", due is " + want);
        }
    }

    static void dueText(String call, String got, String want) {
        looked++;
        if (!got.equals(want)) {
            wrong++;
            System.out.println(call + " answered " + got + ", due is " + want);
        }
    }

    /** The call must throw just that exception, and change nothing. */
    static void refused(String call, VisionMixer mixer, Class<? extends RuntimeException> due, Call made) {
        long before = mixer.digest();
        dueText(call, outcome(made), due.getSimpleName());
        due("digest() behind " + call, mixer.digest(), before);
    }

    static String outcome(Call made) {
        try {
            return Long.toString(made.answer());
        } catch (RuntimeException e) {
            return e.getClass().getSimpleName();
        }
    }

    static void write(VisionMixer mixer, String text) {
        mixer.clearText();
        for (int i = 0; i < text.length(); i++) {
            mixer.append(text.charAt(i));
        }
    }

    /** What carryOut() answers to a text on that mixer. */
    static int carried(VisionMixer mixer, String text) {
        write(mixer, text);
        return mixer.carryOut();
    }

    /** A new mixer with a full log, at time 0: 100 acts that all set the preview source to 2, which it is. */
    static VisionMixer fullMixer() {
        VisionMixer mixer = new VisionMixer();
        for (int i = 0; i < 100; i++) {
            mixer.preview(2);
        }
        return mixer;
    }

    static void end() {
        System.out.println(looked + " looked at, " + wrong + " wrong");
        if (wrong > 0) {
            System.exit(1);
        }
    }
}
