/** Promises 18 to 23: questions about former times. */
final class ReplayTest {
    private static final Class<IndexOutOfBoundsException> INDEX = IndexOutOfBoundsException.class;
    private static final Class<IllegalArgumentException> ARGUMENT = IllegalArgumentException.class;

    public static void main(String[] args) {
        promise18SettingAt();
        promise19ShareAt();
        promise20TimesRed();
        promise21FirstRed();
        promise22LongestShot();
        promise23Runs();
        aTimeIsLookedAtBehindItsActs();
        questionsChangeNothing();
        Check.end();
    }

    /** At 10 a run of 4 frames begins, at 20 source 7 is cut in, now it is 30. */
    private static VisionMixer mixerWithPast() {
        VisionMixer mixer = new VisionMixer();
        mixer.transition(0, 4);
        mixer.pass(10);
        mixer.auto();
        mixer.pass(10);
        mixer.preview(7);
        mixer.cut();
        mixer.pass(10);
        return mixer;
    }

    private static void promise18SettingAt() {
        VisionMixer mixer = mixerWithPast();
        int[][] due = {
            {0, 1, 2, 0, 4, 1, 0, -1},
            {9, 1, 2, 0, 4, 1, 0, -1},
            {10, 1, 2, 0, 4, 1, 0, 0},
            {11, 1, 2, 0, 4, 1, 250, 1},
            {13, 1, 2, 0, 4, 1, 750, 3},
            {14, 2, 1, 0, 4, 1, 0, -1},
            {19, 2, 1, 0, 4, 1, 0, -1},
            {20, 7, 2, 0, 4, 1, 0, -1},
            {30, 7, 2, 0, 4, 1, 0, -1},
        };
        for (int[] row : due) {
            for (int what = 0; what <= 6; what++) {
                Check.due("settingAt(" + row[0] + ", " + what + ")", mixer.settingAt(row[0], what), row[what + 1]);
            }
        }
        Check.refused("settingAt(-1, 0)", mixer, INDEX, () -> mixer.settingAt(-1, 0));
        Check.refused("settingAt(31, 0)", mixer, INDEX, () -> mixer.settingAt(31, 0));
        Check.refused("settingAt(31, 7)", mixer, INDEX, () -> mixer.settingAt(31, 7));
        Check.refused("settingAt(30, 7)", mixer, ARGUMENT, () -> mixer.settingAt(30, 7));
        Check.refused("settingAt(0, 8)", mixer, ARGUMENT, () -> mixer.settingAt(0, 8));
        Check.refused("settingAt(0, -1)", mixer, ARGUMENT, () -> mixer.settingAt(0, -1));
    }

    private static void promise19ShareAt() {
        VisionMixer mixer = mixerWithPast();
        Check.due("shareAt(10, 1)", mixer.shareAt(10, 1), 1000000);
        Check.due("shareAt(11, 1)", mixer.shareAt(11, 1), 750000);
        Check.due("shareAt(13, 2)", mixer.shareAt(13, 2), 750000);
        Check.due("shareAt(14, 1)", mixer.shareAt(14, 1), 0);
        Check.due("shareAt(20, 7)", mixer.shareAt(20, 7), 1000000);
        Check.due("shareAt(30, 7)", mixer.shareAt(30, 7), 1000000);
        mixer.fault(7, true);
        Check.due("shareAt(30, 7) of a faulty source", mixer.shareAt(30, 7), 1000000);
        Check.refused("shareAt(-1, 0)", mixer, INDEX, () -> mixer.shareAt(-1, 0));
        Check.refused("shareAt(31, 0)", mixer, INDEX, () -> mixer.shareAt(31, 0));
        Check.refused("shareAt(0, -1)", mixer, INDEX, () -> mixer.shareAt(0, -1));
        Check.refused("shareAt(0, 10)", mixer, INDEX, () -> mixer.shareAt(0, 10));
    }

    private static void promise20TimesRed() {
        VisionMixer fresh = new VisionMixer();
        Check.due("timesRed(1) at 0", fresh.timesRed(1), 1);
        Check.due("timesRed(2) at 0", fresh.timesRed(2), 0);
        VisionMixer mixer = mixerWithPast();
        Check.due("timesRed(1)", mixer.timesRed(1), 14);
        Check.due("timesRed(2)", mixer.timesRed(2), 9);
        Check.due("timesRed(7)", mixer.timesRed(7), 11);
        Check.due("timesRed(0)", mixer.timesRed(0), 0);
        Check.refused("timesRed(-1)", mixer, INDEX, () -> mixer.timesRed(-1));
        Check.refused("timesRed(10)", mixer, INDEX, () -> mixer.timesRed(10));
        VisionMixer longest = new VisionMixer();
        for (int i = 0; i < 10; i++) {
            longest.pass(500);
        }
        Check.due("timesRed(1) at 5000", longest.timesRed(1), 5001);
        VisionMixer dip = new VisionMixer();
        dip.transition(2, 4);
        dip.auto();
        dip.pass(100);
        Check.due("timesRed(0) of a dip", dip.timesRed(0), 3);
        Check.due("timesRed(1) of a dip", dip.timesRed(1), 2);
        Check.due("timesRed(2) of a dip", dip.timesRed(2), 98);
    }

    private static void promise21FirstRed() {
        VisionMixer mixer = mixerWithPast();
        Check.due("firstRed(1)", mixer.firstRed(1), 0);
        Check.due("firstRed(2)", mixer.firstRed(2), 11);
        Check.due("firstRed(7)", mixer.firstRed(7), 20);
        Check.due("firstRed(9)", mixer.firstRed(9), VisionMixer.NONE);
        mixer.program(9);
        Check.due("firstRed(9) at the present", mixer.firstRed(9), 30);
        Check.due("firstRed(7) then", mixer.firstRed(7), 20);
        Check.refused("firstRed(-1)", mixer, INDEX, () -> mixer.firstRed(-1));
        Check.refused("firstRed(10)", mixer, INDEX, () -> mixer.firstRed(10));
    }

    private static void promise22LongestShot() {
        VisionMixer mixer = new VisionMixer();
        Check.due("longestShot() at 0", mixer.longestShot(), 1);
        Check.due("longestShot()", mixerWithPast().longestShot(), 11);
        mixer.pass(9);
        mixer.program(5);
        mixer.pass(1);
        // an act that leaves the same sources red does not end the shot
        mixer.toggle(0);
        mixer.key(0, 3, 50, 50);
        mixer.pass(4);
        Check.due("the first shot is longest", mixer.longestShot(), 9);
        mixer.key(0, 3, 60, 60);
        mixer.fault(3, true);
        mixer.pass(5);
        Check.due("the last shot is longest", mixer.longestShot(), 10);
        VisionMixer run = new VisionMixer();
        run.transition(0, 50);
        run.auto();
        run.pass(60);
        Check.due("the run is longest", run.longestShot(), 49);
        // then it goes back to a red set that was there before
        run.program(2);
        run.pass(500);
        Check.due("the shot behind it", run.longestShot(), 511);
    }

    private static void promise23Runs() {
        VisionMixer mixer = new VisionMixer();
        mixer.transition(0, 5);
        mixer.cut();
        mixer.bar(1000);
        mixer.auto();
        mixer.pass(4);
        Check.due("runs() within a run", mixer.runs(), 0);
        mixer.pass(1);
        Check.due("runs()", mixer.runs(), 1);
        mixer.auto();
        mixer.pass(2);
        mixer.cut();
        mixer.pass(50);
        Check.due("runs() behind a run that was cut", mixer.runs(), 1);
        mixer.auto();
        mixer.pass(100);
        Check.due("runs() then", mixer.runs(), 2);
        // without the cut the second run is completed by frames, and the third one too
        mixer.takeOut(5);
        Check.due("runs() without the cut", mixer.runs(), 3);
        mixer.takeOut(3);
        Check.due("runs() without the first auto", mixer.runs(), 2);
    }

    private static void aTimeIsLookedAtBehindItsActs() {
        VisionMixer mixer = new VisionMixer();
        mixer.program(5);
        mixer.program(6);
        mixer.pass(3);
        mixer.program(7);
        mixer.program(8);
        Check.due("timesRed(1), not behind the acts", mixer.timesRed(1), 0);
        Check.due("firstRed(5), not behind the acts", mixer.firstRed(5), -1);
        Check.due("timesRed(6)", mixer.timesRed(6), 3);
        Check.due("timesRed(7), not behind the acts", mixer.timesRed(7), 0);
        Check.due("timesRed(8)", mixer.timesRed(8), 1);
        Check.due("settingAt(3, 0)", mixer.settingAt(3, 0), 8);
    }

    private static void questionsChangeNothing() {
        VisionMixer mixer = mixerWithPast();
        mixer.auto();
        mixer.pass(1);
        long digest = mixer.digest();
        mixer.settingAt(3, 0);
        mixer.shareAt(12, 1);
        mixer.timesRed(2);
        mixer.firstRed(9);
        mixer.longestShot();
        mixer.runs();
        mixer.redWithout(1);
        mixer.idle();
        Check.due("digest() behind questions", mixer.digest(), digest);
    }
}
