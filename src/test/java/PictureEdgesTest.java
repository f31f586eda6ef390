import java.math.BigInteger;
import java.util.ArrayList;
import java.util.List;

/** The edges that the document's section "Picture" names: promises 15, 16 and 17, and the digest's (32). */
final class PictureEdgesTest {
    private static final int[] POSITIONS = {0, 1, 2, 333, 499, 500, 501, 502, 998, 999};

    public static void main(String[] args) {
        sharesAreAllTogether();
        theBackgroundIsNoElement();
        mixAndWipe();
        dipAround500();
        aSourceMeantTwice();
        keyersAscending();
        aCoverOf0AndOf10000();
        coversOfTheFourStates();
        coversAreRoundedDown();
        takenSharesAreRoundedDown();
        theFillSourceGivesToo();
        redAboveShare0();
        greenAboveShare0BehindCompleting();
        greenWithThePosition0();
        faultsDoNotMatter();
        seenAsBlack();
        faultyFromNoneToAll();
        digestWrapsAround();
        Check.end();
    }

    /** All sources that are not named must have the share 0. */
    private static void shares(String when, VisionMixer mixer, boolean seen, int... sourcesAndShares) {
        int[] due = new int[10];
        for (int i = 0; i < sourcesAndShares.length; i += 2) {
            due[sourcesAndShares[i]] += sourcesAndShares[i + 1];
        }
        for (int source = 0; source < 10; source++) {
            Check.due(when + ": share(" + source + ", " + seen + ")", mixer.share(source, seen), due[source]);
        }
    }

    private static void tallies(String when, VisionMixer mixer, String due) {
        StringBuilder got = new StringBuilder();
        for (int source = 0; source < 10; source++) {
            got.append(mixer.tally(source));
        }
        Check.dueText(when + ": tallies", got.toString(), due);
    }

    /** Three keyers with odd covers, of which the first and the last are on. */
    private static VisionMixer withKeyers(int kind, int elements) {
        VisionMixer mixer = new VisionMixer();
        mixer.transition(kind, 25);
        mixer.next(elements);
        mixer.key(0, 3, 37, 41);
        mixer.key(1, 4, 83, 59);
        mixer.key(2, 1, 97, 71);
        mixer.toggle(0);
        mixer.toggle(2);
        return mixer;
    }

    /** "The shares of the sources are numbers, which are 1000000 together." */
    private static void sharesAreAllTogether() {
        for (int kind = 0; kind <= 2; kind++) {
            for (int elements = 0; elements <= 15; elements++) {
                VisionMixer mixer = withKeyers(kind, elements);
                for (int position : POSITIONS) {
                    mixer.bar(position);
                    int sum = 0;
                    int seen = 0;
                    for (int source = 0; source <= 9; source++) {
                        sum += mixer.share(source, false);
                        seen += mixer.share(source, true);
                    }
                    Check.due("kind " + kind + ", elements " + elements + " at " + position, sum, 1000000);
                    Check.due("seen: kind " + kind + ", elements " + elements + " at " + position, seen, 1000000);
                }
            }
        }
    }

    /** "if the background is no element of the next transition, the program source has 1000000" */
    private static void theBackgroundIsNoElement() {
        for (int kind = 0; kind <= 2; kind++) {
            for (int elements = 0; elements <= 14; elements += 2) {
                VisionMixer mixer = new VisionMixer();
                mixer.transition(kind, 25);
                mixer.next(elements);
                for (int keyer = 0; keyer <= 2; keyer++) {
                    mixer.key(keyer, 7, 0, 100);
                }
                for (int position : POSITIONS) {
                    mixer.bar(position);
                    shares("elements " + elements + " at " + position, mixer, false, 1, 1000000);
                }
            }
        }
    }

    private static void mixAndWipe() {
        for (int kind = 0; kind <= 1; kind++) {
            VisionMixer mixer = new VisionMixer();
            mixer.transition(kind, 25);
            for (int position : POSITIONS) {
                mixer.bar(position);
                shares("kind " + kind + " at " + position, mixer, false, 1, (1000 - position) * 1000,
                    2, position * 1000);
            }
            mixer.bar(1000);
            shares("kind " + kind + ", completed", mixer, false, 2, 1000000);
        }
    }

    /** "for the kind 2 and t at most 500 ..; for the kind 2 and t above 500" */
    private static void dipAround500() {
        int[][] due = {
            {0, 1000000, 0, 0}, {1, 998000, 2000, 0}, {499, 2000, 998000, 0}, {500, 0, 1000000, 0},
            {501, 0, 998000, 2000}, {502, 0, 996000, 4000}, {750, 0, 500000, 500000}, {999, 0, 2000, 998000},
        };
        VisionMixer mixer = new VisionMixer();
        mixer.transition(2, 25);
        for (int[] row : due) {
            mixer.bar(row[0]);
            shares("dip at " + row[0], mixer, false, 1, row[1], 0, row[2], 2, row[3]);
        }
        mixer.bar(500);
        tallies("dip at 500", mixer, "2010000000");
        mixer.bar(499);
        tallies("dip at 499", mixer, "2210000000");
        mixer.bar(501);
        tallies("dip at 501", mixer, "2020000000");
    }

    /** "(A source that is meant twice gets both.)" */
    private static void aSourceMeantTwice() {
        VisionMixer mixer = new VisionMixer();
        mixer.program(6);
        mixer.preview(6);
        for (int kind = 0; kind <= 1; kind++) {
            mixer.transition(kind, 25);
            for (int position : POSITIONS) {
                mixer.bar(position);
                shares("one source, kind " + kind + " at " + position, mixer, false, 6, 1000000);
            }
        }
        mixer.transition(2, 25);
        mixer.bar(250);
        shares("one source dips at 250", mixer, false, 6, 500000, 0, 500000);
        mixer.bar(750);
        shares("one source dips at 750", mixer, false, 6, 500000, 0, 500000);
        mixer.program(0);
        mixer.bar(499);
        shares("black dips at 499", mixer, false, 0, 1000000);
        mixer.bar(501);
        shares("black dips at 501", mixer, false, 0, 998000, 6, 2000);
        mixer.preview(0);
        shares("black dips to black", mixer, false, 0, 1000000);
    }

    /** "Then the keyers, in ascending order" */
    private static void keyersAscending() {
        VisionMixer mixer = new VisionMixer();
        for (int keyer = 0; keyer <= 2; keyer++) {
            mixer.key(keyer, 3 + keyer, 100, 50);
        }
        mixer.toggle(2);
        mixer.toggle(0);
        mixer.toggle(1);
        shares("three halves", mixer, false, 1, 125000, 3, 125000, 4, 250000, 5, 500000);
        mixer.key(0, 3, 100, 100);
        shares("the first covers all", mixer, false, 3, 250000, 4, 250000, 5, 500000);
        mixer.key(1, 4, 100, 100);
        shares("the second covers all", mixer, false, 4, 500000, 5, 500000);
        mixer.key(2, 5, 100, 100);
        shares("the last covers all", mixer, false, 5, 1000000);
        mixer.key(2, 3, 100, 50);
        shares("the last has the first one's source", mixer, false, 4, 500000, 3, 500000);
    }

    /** c = opacity * area: from 0 to 10000. */
    private static void aCoverOf0AndOf10000() {
        int[][] due = {
            {0, 1, 0}, {0, 100, 0}, {1, 1, 100}, {1, 100, 10000}, {100, 1, 10000}, {50, 50, 250000},
            {99, 100, 990000}, {100, 99, 990000}, {100, 100, 1000000},
        };
        VisionMixer mixer = new VisionMixer();
        mixer.toggle(1);
        for (int[] row : due) {
            mixer.key(1, 8, row[0], row[1]);
            shares("opacity " + row[0] + ", area " + row[1], mixer, false, 1, 1000000 - row[2], 8, row[2]);
        }
    }

    /** On or off, an element or not, at the positions 0, 1, 500 and 999, with c = 10000. */
    private static void coversOfTheFourStates() {
        for (int keyer = 0; keyer <= 2; keyer++) {
            for (int position : new int[] {0, 1, 500, 999}) {
                for (int state = 0; state <= 3; state++) {
                    VisionMixer mixer = new VisionMixer();
                    boolean on = state % 2 == 1;
                    boolean element = state >= 2;
                    mixer.key(keyer, 8, 100, 100);
                    if (on) {
                        mixer.toggle(keyer);
                    }
                    mixer.next(element ? 2 << keyer : 0);
                    mixer.bar(position);
                    int faded = on ? 1000 - position : position;
                    int cover = element ? faded * 1000 : on ? 1000000 : 0;
                    shares("keyer " + keyer + ", state " + state + " at " + position, mixer, false,
                        1, 1000000 - cover, 8, cover);
                }
            }
        }
    }

    /** "c * (1000 - t) / 1000", "c * t / 1000": rounded down. */
    private static void coversAreRoundedDown() {
        int[][] due = {
            // opacity, area, position, cover when it goes on, cover when it goes off
            {1, 1, 0, 0, 1}, {1, 1, 1, 0, 0}, {1, 1, 999, 0, 0}, {3, 1, 333, 0, 2}, {3, 1, 334, 1, 1},
            {3, 1, 667, 2, 0}, {1, 2, 500, 1, 1}, {1, 2, 499, 0, 1}, {1, 2, 501, 1, 0}, {10, 100, 1, 1, 999}, {9, 100, 1, 0, 899},
            {10, 100, 999, 999, 1}, {33, 33, 250, 272, 816}, {99, 99, 123, 1205, 8595},
        };
        for (int[] row : due) {
            VisionMixer mixer = new VisionMixer();
            mixer.next(4);
            mixer.key(1, 8, row[0], row[1]);
            mixer.bar(row[2]);
            String when = row[0] + " * " + row[1] + " at " + row[2];
            shares(when + ", goes on", mixer, false, 1, 1000000 - row[3] * 100, 8, row[3] * 100);
            mixer.toggle(1);
            shares(when + ", goes off", mixer, false, 1, 1000000 - row[4] * 100, 8, row[4] * 100);
        }
    }

    /** "s * cover / 10000 is taken", of each source for itself, rounded down. */
    private static void takenSharesAreRoundedDown() {
        VisionMixer mixer = new VisionMixer();
        mixer.toggle(0);
        mixer.bar(1);
        mixer.key(0, 3, 9, 1);
        shares("9 of 10000", mixer, false, 1, 999000 - 899, 2, 1000, 3, 899);
        mixer.key(0, 3, 10, 1);
        shares("10 of 10000", mixer, false, 1, 999000 - 999, 2, 999, 3, 1000);
        mixer.key(0, 3, 19, 1);
        shares("19 of 10000", mixer, false, 1, 999000 - 1898, 2, 999, 3, 1899);
        mixer.key(0, 3, 20, 1);
        shares("20 of 10000", mixer, false, 1, 999000 - 1998, 2, 998, 3, 2000);
        mixer.key(0, 3, 99, 100);
        shares("9900 of 10000", mixer, false, 1, 9990, 2, 10, 3, 990000);
    }

    /** "From the share s of each source, also from that of its fill source" */
    private static void theFillSourceGivesToo() {
        VisionMixer mixer = new VisionMixer();
        mixer.toggle(0);
        mixer.key(0, 1, 100, 25);
        shares("the fill source has all", mixer, false, 1, 1000000);
        mixer.bar(500);
        shares("the fill source has half", mixer, false, 1, 625000, 2, 375000);
        mixer.key(0, 2, 33, 100);
        mixer.key(1, 2, 11, 3);
        mixer.toggle(1);
        // keyer 0 takes 165000 of each, keyer 1 then 1105 of 335000 and 2194 of 665000
        shares("two keyers with one fill source", mixer, false, 1, 335000 - 1105, 2, 665000 - 2194 + 3299);
        mixer.key(0, 0, 100, 100);
        shares("black covers all, then source 2 a little", mixer, false, 0, 996700, 2, 3300);
    }

    /** "The tally of a source is red if its share is above 0." */
    private static void redAboveShare0() {
        VisionMixer mixer = new VisionMixer();
        mixer.next(3);
        mixer.key(0, 5, 100, 100);
        mixer.bar(999);
        // source 1 has 1000 behind the background, of which the keyer takes 9990 of 10000
        shares("a share of 1", mixer, false, 1, 1, 2, 999, 5, 999000);
        tallies("a share of 1", mixer, "0220020000");
        mixer.toggle(0);
        tallies("all is seen", mixer, "0220020000");
        mixer.key(0, 5, 0, 100);
        shares("a share of 0", mixer, false, 1, 1000, 2, 999000);
        tallies("a share of 0", mixer, "0220000000");
        mixer.bar(0);
        tallies("a share of 0 at 0", mixer, "0210000000");
        VisionMixer covered = new VisionMixer();
        covered.key(2, 9, 100, 100);
        covered.toggle(2);
        shares("all covered", covered, false, 9, 1000000);
        tallies("all covered", covered, "0000000002");
    }

    /** "its share would be above 0 behind completing the transition": 1 is green, 0 is off. */
    private static void greenAboveShare0BehindCompleting() {
        VisionMixer mixer = new VisionMixer();
        mixer.next(15);
        for (int keyer = 0; keyer <= 2; keyer++) {
            mixer.key(keyer, 7, 100, 99);
        }
        tallies("a share of 1 behind completing", mixer, "0210000100");
        mixer.key(0, 7, 100, 100);
        tallies("a share of 0 behind completing", mixer, "0200000100");
        mixer.key(0, 7, 1, 1);
        mixer.key(1, 8, 0, 1);
        mixer.key(2, 9, 0, 100);
        tallies("keyers without opacity", mixer, "0210000100");
        mixer.next(14);
        tallies("the preview source is not meant", mixer, "0200000100");
        mixer.next(0);
        tallies("without elements", mixer, "0200000000");
        VisionMixer uncovers = new VisionMixer();
        uncovers.key(0, 6, 100, 100);
        uncovers.toggle(0);
        tallies("a keyer covers all, the background moves", uncovers, "0000002000");
        uncovers.next(2);
        tallies("a keyer that covers all would go off", uncovers, "0100002000");
        uncovers.next(3);
        tallies("and the background would move", uncovers, "0010002000");
        uncovers.preview(0);
        tallies("to black", uncovers, "1000002000");
    }

    /** "(with the position 0)": at the present position source 2 would have no share behind completing. */
    private static void greenWithThePosition0() {
        VisionMixer mixer = new VisionMixer();
        mixer.transition(2, 25);
        mixer.bar(500);
        tallies("a dip at 500", mixer, "2010000000");
        VisionMixer keyer = new VisionMixer();
        keyer.next(2);
        keyer.key(0, 6, 1, 1);
        tallies("cover 1, behind completing", keyer, "0200001000");
        keyer.bar(999);
        shares("no cover yet", keyer, false, 1, 1000000);
        tallies("no cover yet", keyer, "0200001000");
    }

    /** "(Faults do not matter for shares and tallies.)" */
    private static void faultsDoNotMatter() {
        VisionMixer mixer = withKeyers(2, 7);
        mixer.bar(400);
        int[] shares = new int[10];
        StringBuilder tallies = new StringBuilder();
        for (int source = 0; source <= 9; source++) {
            shares[source] = mixer.share(source, false);
            tallies.append(mixer.tally(source));
        }
        for (int faulty = 1; faulty <= 9; faulty++) {
            mixer.fault(faulty, true);
            for (int source = 0; source <= 9; source++) {
                Check.due("share(" + source + ", false)", mixer.share(source, false), shares[source]);
            }
            tallies("faulty up to " + faulty, mixer, tallies.toString());
        }
    }

    /** "the seen share of a source that is faulty is 0, and its share is added to that of black" */
    private static void seenAsBlack() {
        VisionMixer mixer = new VisionMixer();
        mixer.transition(2, 25);
        mixer.bar(250);
        shares("none faulty", mixer, true, 0, 500000, 1, 500000);
        mixer.fault(2, true);
        shares("one that has no share", mixer, true, 0, 500000, 1, 500000);
        mixer.fault(1, true);
        shares("all but black", mixer, true, 0, 1000000);
        shares("the shares stay", mixer, false, 0, 500000, 1, 500000);
        mixer.fault(1, false);
        shares("sound again", mixer, true, 0, 500000, 1, 500000);
        VisionMixer last = new VisionMixer();
        last.program(9);
        last.fault(9, true);
        shares("the last source", last, true, 0, 1000000);
    }

    /** faulty(): 0, the smallest share, and the whole picture. */
    private static void faultyFromNoneToAll() {
        VisionMixer mixer = new VisionMixer();
        mixer.next(3);
        mixer.key(0, 5, 100, 100);
        mixer.bar(999);
        Check.due("none", mixer.faulty(), 0.0);
        mixer.fault(9, true);
        Check.due("one that has no share", mixer.faulty(), 0.0);
        mixer.fault(1, true);
        Check.due("a share of 1", mixer.faulty(), 1 / 1000000.0);
        mixer.fault(2, true);
        Check.due("a share of 1000", mixer.faulty(), 1000 / 1000000.0);
        mixer.fault(5, true);
        Check.due("all", mixer.faulty(), 1.0);
        mixer.fault(1, false);
        Check.due("all but 1", mixer.faulty(), 999999 / 1000000.0);
    }

    /** "with the overflow of long arithmetic ignored": beside the true number, which no long holds. */
    private static void digestWrapsAround() {
        VisionMixer[] mixers = {
            new VisionMixer(), Twins.byHand(), Twins.inRun(), Twins.fullLog(), Twins.atTime(5000), Twins.withText(120),
        };
        int[] textLengths = {0, 13, 9, 3, 0, 120};
        for (int i = 0; i < mixers.length; i++) {
            BigInteger due = trueDigest(mixers[i], textLengths[i]);
            Check.due("no long holds it, mixer " + i, due.bitLength() > 64 ? 1 : 0, 1);
            Check.due("digest(), mixer " + i, mixers[i].digest(), due.longValue());
        }
        Check.due("digest() of a new one", new VisionMixer().digest(), trueDigest(new VisionMixer(), 0).longValue());
    }

    private static BigInteger trueDigest(VisionMixer mixer, int textLength) {
        List<Integer> values = new ArrayList<>();
        values.add(textLength);
        for (int what = 0; what <= 8; what++) {
            values.add(mixer.setting(what));
        }
        for (int i = 0; i < 12; i++) {
            values.add(mixer.keyer(i / 4, i % 4));
        }
        for (int source = 0; source <= 9; source++) {
            values.add(mixer.share(source, false));
            values.add(mixer.share(source, true));
            values.add(mixer.tally(source));
        }
        // an object answers 512 calls: of 100 acts, the fourth value of the preview() ones, which is NONE, is not asked
        int acts = mixer.setting(8);
        for (int act = 0; act < acts; act++) {
            for (int what = 0; what <= 3; what++) {
                values.add(what == 3 && act > 2 && acts == 100 ? VisionMixer.NONE : mixer.act(act, what));
            }
        }
        BigInteger h = BigInteger.valueOf(3253);
        for (int value : values) {
            h = h.multiply(BigInteger.valueOf(31)).add(BigInteger.valueOf(value));
        }
        return h;
    }
}
