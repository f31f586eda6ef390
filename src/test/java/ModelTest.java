import java.util.Random;

/** Long runs of calls, drawn from fixed seeds, on the program and on the model: each answer must be the same. */
final class ModelTest {
    private static final int RUNS = 500;
    private static final int CALLS = 512;
    private static final int METHODS = 31;

    private final Random random;
    private final VisionMixer mixer = new VisionMixer();
    private final Model model = new Model();
    private final String name;
    private final int[] weights;
    private final int longPass;
    private int calls = 0;

    private ModelTest(int seed) {
        random = new Random(seed);
        name = "seed " + seed;
        weights = new int[METHODS];
        for (int i = 0; i < METHODS; i++) {
            weights[i] = 1 + random.nextInt(6);
        }
        // some runs hardly ever take acts back, so that their log gets full; some reach the last time
        if (seed % 2 == 0) {
            weights[22] = 0;
            weights[23] = 0;
        }
        weights[27] = seed % 3;
        longPass = seed % 4 == 0 ? 500 : 40;
    }

    public static void main(String[] args) {
        for (int seed = 0; seed < RUNS; seed++) {
            new ModelTest(seed).run();
        }
        Check.end();
    }

    private void run() {
        int all = 0;
        for (int weight : weights) {
            all += weight;
        }
        // an object answers 512 calls, the last of which is a digest
        for (int i = 0; calls < CALLS - 2; i++) {
            int drawn = random.nextInt(all);
            int method = 0;
            while (drawn >= weights[method]) {
                drawn -= weights[method];
                method++;
            }
            call(name + ", call " + i, method);
            if (i % 64 == 63) {
                same(name + ", call " + i + ": digest", mixer::digest, model::digest);
            }
        }
        same(name + ": the last digest", mixer::digest, model::digest);
    }

    private void same(String call, Check.Call ofMixer, Check.Call ofModel) {
        calls++;
        Check.dueText(call, Check.outcome(ofMixer), Check.outcome(ofModel));
    }

    /** Mostly from low to high, sometimes just outside. */
    private int draw(int low, int high) {
        int drawn = random.nextInt(60);
        return drawn == 0 ? low - 1 : drawn == 1 ? high + 1 : low + random.nextInt(high - low + 1);
    }

    private int drawAct() {
        return draw(0, Math.max(0, (int) model.setting(8) - 1));
    }

    private int drawTime() {
        return draw(0, (int) model.setting(7));
    }

    private int drawPosition() {
        return random.nextInt(4) == 0 ? random.nextInt(2) * 1000 : draw(0, 1000);
    }

    private void call(String when, int method) {
        if (method <= 9) {
            callAct(when, method);
        } else if (method <= 15) {
            callQuestion(when, method);
        } else if (method <= 26) {
            callHistory(when, method);
        } else {
            callText(when, method);
        }
    }

    private void callAct(String when, int method) {
        int a = draw(0, 9);
        int b = draw(1, 100);
        int c = draw(1, 100);
        int d = draw(0, 9);
        int keyer = draw(0, 2);
        int elements = draw(0, 15);
        int position = drawPosition();
        boolean faulty = random.nextBoolean();
        switch (method) {
            case 0:
                same(when + ": program(" + a + ")", () -> mixer.program(a), () -> model.enact(0, a));
                break;
            case 1:
                same(when + ": preview(" + a + ")", () -> mixer.preview(a), () -> model.enact(1, a));
                break;
            case 2:
                same(when + ": transition", () -> mixer.transition(keyer, b), () -> model.enact(2, keyer, b));
                break;
            case 3:
                same(when + ": next(" + elements + ")", () -> mixer.next(elements), () -> model.enact(3, elements));
                break;
            case 4:
                same(when + ": key", () -> mixer.key(keyer, d, b - 1, c), () -> model.enact(4, keyer, d, b - 1, c));
                break;
            case 5:
                same(when + ": toggle(" + keyer + ")", () -> mixer.toggle(keyer), () -> model.enact(5, keyer));
                break;
            case 6:
                same(when + ": cut()", mixer::cut, () -> model.enact(6));
                break;
            case 7:
                same(when + ": auto()", mixer::auto, () -> model.enact(7));
                break;
            case 8:
                same(when + ": bar(" + position + ")", () -> mixer.bar(position), () -> model.enact(8, position));
                break;
            default:
                same(when + ": fault(" + a + ")", () -> mixer.fault(a, faulty),
                    () -> model.enact(9, a, faulty ? 1 : 0));
        }
    }

    private void callQuestion(String when, int method) {
        int source = draw(0, 9);
        int keyer = draw(0, 2);
        int what = draw(0, method == 11 ? 8 : 3);
        int frames = random.nextInt(8) == 0 ? draw(0, 500) : draw(0, longPass);
        boolean seen = random.nextBoolean();
        switch (method) {
            case 10:
                same(when + ": pass(" + frames + ")", () -> mixer.pass(frames), () -> model.pass(frames));
                break;
            case 11:
                same(when + ": setting(" + what + ")", () -> mixer.setting(what), () -> model.setting(what));
                break;
            case 12:
                same(when + ": keyer", () -> mixer.keyer(keyer, what), () -> model.keyer(keyer, what));
                break;
            case 13:
                same(when + ": share", () -> mixer.share(source, seen), () -> model.share(source, seen));
                break;
            case 14:
                same(when + ": tally(" + source + ")", () -> mixer.tally(source), () -> model.tally(source));
                break;
            default:
                calls++;
                Check.due(when + ": faulty()", mixer.faulty(), model.faulty());
        }
    }

    private void callHistory(String when, int method) {
        int time = drawTime();
        int what = draw(0, method == 16 ? 6 : 3);
        int source = draw(0, 9);
        int act = drawAct();
        switch (method) {
            case 16:
                same(when + ": settingAt", () -> mixer.settingAt(time, what), () -> model.settingAt(time, what));
                break;
            case 17:
                same(when + ": shareAt", () -> mixer.shareAt(time, source), () -> model.shareAt(time, source));
                break;
            case 18:
                same(when + ": timesRed(" + source + ")", () -> mixer.timesRed(source), () -> model.timesRed(source));
                break;
            case 19:
                same(when + ": firstRed(" + source + ")", () -> mixer.firstRed(source), () -> model.firstRed(source));
                break;
            case 20:
                same(when + ": longestShot()", mixer::longestShot, model::longestShot);
                break;
            case 21:
                same(when + ": runs()", mixer::runs, model::runs);
                break;
            case 22:
                same(when + ": takeOut(" + act + ")", () -> mixer.takeOut(act), () -> model.takeOut(act));
                break;
            case 23:
                same(when + ": undo()", mixer::undo, model::undo);
                break;
            case 24:
                same(when + ": redWithout(" + act + ")", () -> mixer.redWithout(act), () -> model.redWithout(act));
                break;
            case 25:
                same(when + ": idle()", mixer::idle, model::idle);
                break;
            default:
                same(when + ": act", () -> mixer.act(act, what), () -> model.act(act, what));
        }
    }

    private void callText(String when, int method) {
        int value = random.nextInt(10) == 0 ? draw(0, 127) : "pvkncabw;0123456789".charAt(random.nextInt(19));
        switch (method) {
            case 27:
                String text = drawText();
                if (calls + text.length() + 2 > CALLS - 2) {
                    text = "";
                }
                same(when + ": clearText()", mixer::clearText, model::clearText);
                for (int i = 0; i < text.length(); i++) {
                    mixer.append(text.charAt(i));
                    model.append(text.charAt(i));
                }
                calls += text.length();
                same(when + ": carryOut() of " + text, mixer::carryOut, model::carryOut);
                break;
            case 28:
                same(when + ": append(" + value + ")", () -> mixer.append(value), () -> model.append(value));
                break;
            case 29:
                same(when + ": carryOut()", mixer::carryOut, model::carryOut);
                break;
            default:
                same(when + ": clearText()", mixer::clearText, model::clearText);
        }
    }

    /** Orders, of which sometimes a byte is changed, left out or doubled. */
    private String drawText() {
        StringBuilder text = new StringBuilder();
        int orders = random.nextInt(7);
        for (int i = 0; i < orders; i++) {
            text.append(drawOrder()).append(';');
        }
        int place = text.length() == 0 ? 0 : random.nextInt(text.length());
        int change = random.nextInt(6);
        if (text.length() > 0 && change == 0) {
            text.setCharAt(place, "pvkncabw;0123456789 ".charAt(random.nextInt(20)));
        } else if (text.length() > 0 && change == 1) {
            text.deleteCharAt(place);
        } else if (text.length() > 0 && change == 2) {
            text.insert(place, text.charAt(place));
        }
        return text.toString();
    }

    private String drawOrder() {
        switch (random.nextInt(8)) {
            case 0:
                return "p" + random.nextInt(10);
            case 1:
                return "v" + random.nextInt(10);
            case 2:
                return "k" + random.nextInt(3) + drawNumber(103);
            case 3:
                return "n" + random.nextInt(8);
            case 4:
                return "c";
            case 5:
                return "a";
            case 6:
                return "b" + (random.nextInt(3) == 0 ? "1000" : drawNumber(1010));
            default:
                return "w" + (random.nextInt(9) == 0 ? drawNumber(520) : drawNumber(40));
        }
    }

    private String drawNumber(int bound) {
        String number = Integer.toString(random.nextInt(bound));
        return random.nextInt(5) == 0 ? "0" + number : number;
    }
}
