/** Promises 13 to 17 and 32: questions about the present state, and the digest. */
final class StateTest {
    private static final Class<IndexOutOfBoundsException> INDEX = IndexOutOfBoundsException.class;
    private static final Class<IllegalArgumentException> ARGUMENT = IllegalArgumentException.class;

    public static void main(String[] args) {
        promise13Setting();
        promise14Keyer();
        promise15ShareOfTheBackground();
        promise15ShareOfKeyers();
        promise15ShareSeen();
        promise15ShareRefused();
        promise16Tally();
        promise17Faulty();
        promise32Digest();
        Check.end();
    }

    /** All sources that are not named must have the share 0. */
    private static void shares(String when, VisionMixer mixer, boolean seen, int... sourcesAndShares) {
        int[] due = new int[10];
        for (int i = 0; i < sourcesAndShares.length; i += 2) {
            due[sourcesAndShares[i]] = sourcesAndShares[i + 1];
        }
        for (int source = 0; source < 10; source++) {
            Check.due(when + ": share(" + source + ", " + seen + ")", mixer.share(source, seen), due[source]);
        }
    }

    private static void tallies(String when, VisionMixer mixer, String due) {
        StringBuilder got = new StringBuilder();
        for (int source = 0; source < 10; source++) {
            got.append(mixer.tally(source));
        }
        Check.dueText(when + ": tallies", got.toString(), due);
    }

    private static void promise13Setting() {
        VisionMixer mixer = new VisionMixer();
        mixer.program(6);
        mixer.preview(7);
        mixer.transition(2, 10);
        mixer.next(9);
        mixer.pass(40);
        mixer.auto();
        mixer.pass(4);
        int[] due = {6, 7, 2, 10, 9, 400, 4, 44, 5};
        for (int what = 0; what <= 8; what++) {
            Check.due("setting(" + what + ")", mixer.setting(what), due[what]);
        }
        mixer.cut();
        Check.due("setting(6) without a run", mixer.setting(6), VisionMixer.NONE);
        Check.refused("setting(-1)", mixer, ARGUMENT, () -> mixer.setting(-1));
        Check.refused("setting(9)", mixer, ARGUMENT, () -> mixer.setting(9));
    }

    private static void promise14Keyer() {
        VisionMixer mixer = new VisionMixer();
        mixer.key(1, 8, 70, 40);
        mixer.toggle(1);
        int[] due = {8, 70, 40, 1};
        for (int what = 0; what <= 3; what++) {
            Check.due("keyer(1, " + what + ")", mixer.keyer(1, what), due[what]);
        }
        Check.refused("keyer(-1, 0)", mixer, INDEX, () -> mixer.keyer(-1, 0));
        Check.refused("keyer(3, 0)", mixer, INDEX, () -> mixer.keyer(3, 0));
        Check.refused("keyer(3, 4)", mixer, INDEX, () -> mixer.keyer(3, 4));
        Check.refused("keyer(0, -1)", mixer, ARGUMENT, () -> mixer.keyer(0, -1));
        Check.refused("keyer(2, 4)", mixer, ARGUMENT, () -> mixer.keyer(2, 4));
    }

    private static void promise15ShareOfTheBackground() {
        VisionMixer mixer = new VisionMixer();
        shares("new", mixer, false, 1, 1000000);
        mixer.bar(1);
        shares("mix at 1", mixer, false, 1, 999000, 2, 1000);
        mixer.transition(1, 25);
        mixer.bar(999);
        shares("wipe at 999", mixer, false, 1, 1000, 2, 999000);
        mixer.transition(2, 25);
        mixer.bar(1);
        shares("dip at 1", mixer, false, 1, 998000, 0, 2000);
        mixer.bar(499);
        shares("dip at 499", mixer, false, 1, 2000, 0, 998000);
        mixer.bar(500);
        shares("dip at 500", mixer, false, 0, 1000000);
        mixer.bar(501);
        shares("dip at 501", mixer, false, 0, 998000, 2, 2000);
        mixer.bar(999);
        shares("dip at 999", mixer, false, 0, 2000, 2, 998000);
        mixer.preview(0);
        shares("dip to black", mixer, false, 0, 1000000);
        mixer.program(0);
        mixer.bar(200);
        shares("dip from black", mixer, false, 0, 1000000);
        mixer.transition(0, 25);
        mixer.program(2);
        mixer.preview(2);
        shares("a source meant twice", mixer, false, 2, 1000000);
        VisionMixer without = new VisionMixer();
        without.next(2);
        without.bar(700);
        without.key(0, 3, 0, 1);
        shares("the background is no element", without, false, 1, 1000000);
    }

    private static void promise15ShareOfKeyers() {
        VisionMixer mixer = new VisionMixer();
        mixer.toggle(0);
        shares("keyer 0", mixer, false, 1, 750000, 3, 250000);
        mixer.bar(500);
        shares("a keyer that is on, no element", mixer, false, 1, 375000, 2, 375000, 3, 250000);
        mixer.bar(0);
        mixer.toggle(2);
        shares("keyers 0 and 2", mixer, false, 1, 562500, 3, 187500, 5, 250000);
        mixer.key(2, 3, 100, 25);
        shares("both have one source", mixer, false, 1, 562500, 3, 437500);
        mixer.key(2, 1, 50, 50);
        shares("the fill is the program", mixer, false, 1, 812500, 3, 187500);
        mixer.key(2, 0, 0, 100);
        shares("nothing opaque", mixer, false, 1, 750000, 3, 250000);
        mixer.key(2, 0, 100, 100);
        shares("all covered", mixer, false, 0, 1000000);
        VisionMixer fading = new VisionMixer();
        fading.key(0, 3, 33, 33);
        fading.next(2);
        shares("off, at 0", fading, false, 1, 1000000);
        fading.bar(250);
        // 1089 * 250 / 1000 = 272
        shares("fading in", fading, false, 1, 972800, 3, 27200);
        fading.toggle(0);
        // 1089 * 750 / 1000 = 816
        shares("fading out", fading, false, 1, 918400, 3, 81600);
        VisionMixer rounded = new VisionMixer();
        rounded.key(0, 3, 33, 33);
        rounded.key(1, 4, 77, 91);
        rounded.toggle(0);
        rounded.toggle(1);
        rounded.bar(1);
        // behind keyer 0: 999000 - 108791, 1000 - 108, 108899; keyer 1 takes 7007 of 10000 of each
        shares("rounded down", rounded, false, 1, 890209 - 623769, 2, 892 - 625, 3, 108899 - 76305, 4, 700699);
    }

    private static void promise15ShareSeen() {
        VisionMixer mixer = new VisionMixer();
        mixer.toggle(0);
        mixer.bar(400);
        mixer.fault(2, true);
        shares("shares with a fault", mixer, false, 1, 450000, 2, 300000, 3, 250000);
        shares("seen with a fault", mixer, true, 0, 300000, 1, 450000, 3, 250000);
        mixer.fault(3, true);
        mixer.fault(9, true);
        shares("seen with three faults", mixer, true, 0, 550000, 1, 450000);
        mixer.key(0, 0, 100, 25);
        shares("seen with black in it", mixer, true, 0, 550000, 1, 450000);
        mixer.fault(2, false);
        shares("seen when sound again", mixer, true, 0, 250000, 1, 450000, 2, 300000);
    }

    private static void promise15ShareRefused() {
        VisionMixer mixer = new VisionMixer();
        Check.refused("share(-1, false)", mixer, INDEX, () -> mixer.share(-1, false));
        Check.refused("share(10, false)", mixer, INDEX, () -> mixer.share(10, false));
        Check.refused("share(-1, true)", mixer, INDEX, () -> mixer.share(-1, true));
        Check.refused("share(10, true)", mixer, INDEX, () -> mixer.share(10, true));
    }

    private static void promise16Tally() {
        VisionMixer mixer = new VisionMixer();
        tallies("new", mixer, "0210000000");
        mixer.bar(1);
        tallies("under way", mixer, "0220000000");
        mixer.bar(0);
        mixer.next(14);
        tallies("all keyers are elements", mixer, "0201110000");
        mixer.key(1, 8, 0, 100);
        tallies("a keyer of opacity 0", mixer, "0201010000");
        mixer.toggle(0);
        tallies("a keyer that goes off", mixer, "0202010000");
        mixer.next(0);
        tallies("no elements", mixer, "0202000000");
        mixer.next(5);
        mixer.key(1, 9, 100, 100);
        tallies("a keyer that would cover all", mixer, "0202000001");
        mixer.fault(1, true);
        mixer.fault(9, true);
        tallies("faults do not matter", mixer, "0202000001");
        VisionMixer dip = new VisionMixer();
        dip.transition(2, 25);
        dip.bar(500);
        tallies("a dip in its middle", dip, "2010000000");
        dip.bar(100);
        tallies("a dip at 100", dip, "2210000000");
        tallies("a share of 1", mixerWithShareOf1(), "0220020000");
        VisionMixer green = new VisionMixer();
        green.next(15);
        for (int keyer = 0; keyer < 3; keyer++) {
            green.key(keyer, 7, 100, 99);
        }
        tallies("a share of 1 behind completing", green, "0210000100");
        green.cut();
        shares("it is completed", green, false, 2, 1, 7, 999999);
        Check.refused("tally(-1)", mixer, INDEX, () -> mixer.tally(-1));
        Check.refused("tally(10)", mixer, INDEX, () -> mixer.tally(10));
    }

    /** Source 1 has 1000 of the background, and the keyer takes 9990 of 10000 of it. */
    private static VisionMixer mixerWithShareOf1() {
        VisionMixer mixer = new VisionMixer();
        mixer.next(3);
        mixer.key(0, 5, 100, 100);
        mixer.bar(999);
        Check.due("share(1, false)", mixer.share(1, false), 1);
        Check.due("redWithout() of another act", redWithoutAnIdleAct(mixer), 1 << 1 | 1 << 2 | 1 << 5);
        return mixer;
    }

    private static int redWithoutAnIdleAct(VisionMixer mixer) {
        mixer.fault(9, true);
        return mixer.redWithout(mixer.setting(8) - 1);
    }

    private static void promise17Faulty() {
        VisionMixer mixer = new VisionMixer();
        Check.due("none faulty", mixer.faulty(), 0.0);
        mixer.fault(2, true);
        Check.due("not in the picture", mixer.faulty(), 0.0);
        mixer.bar(333);
        Check.due("one faulty", mixer.faulty(), 333000 / 1000000.0);
        mixer.toggle(0);
        mixer.fault(3, true);
        Check.due("two faulty", mixer.faulty(), (333000 - 83250 + 250000) / 1000000.0);
        mixer.fault(1, true);
        Check.due("all faulty", mixer.faulty(), 1.0);
    }

    private static void promise32Digest() {
        VisionMixer mixer = new VisionMixer();
        Check.due("a new digest", mixer.digest(), digestByHand(mixer, 0));
        mixer.transition(2, 7);
        mixer.key(1, 8, 30, 90);
        mixer.toggle(1);
        mixer.fault(8, true);
        mixer.pass(3);
        mixer.auto();
        mixer.pass(2);
        Check.write(mixer, "p1;x");
        long digest = mixer.digest();
        Check.due("a digest", digest, digestByHand(mixer, 4));
        Check.due("a digest again", mixer.digest(), digest);
        mixer.append('y');
        Check.due("a digest with a longer text", mixer.digest(), digestByHand(mixer, 5));
        mixer.undo();
        Check.due("a digest behind undo()", mixer.digest(), digestByHand(mixer, 5));
    }

    private static long digestByHand(VisionMixer mixer, int textLength) {
        long h = 31L * 3253 + textLength;
        for (int what = 0; what <= 8; what++) {
            h = 31 * h + mixer.setting(what);
        }
        for (int keyer = 0; keyer < 3; keyer++) {
            for (int what = 0; what <= 3; what++) {
                h = 31 * h + mixer.keyer(keyer, what);
            }
        }
        for (int source = 0; source < 10; source++) {
            h = 31 * h + mixer.share(source, false);
            h = 31 * h + mixer.share(source, true);
            h = 31 * h + mixer.tally(source);
        }
        for (int act = 0; act < mixer.setting(8); act++) {
            for (int what = 0; what <= 3; what++) {
                h = 31 * h + mixer.act(act, what);
            }
        }
        return h;
    }
}
