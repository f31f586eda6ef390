import java.util.ArrayList;
import java.util.List;
import java.util.TreeSet;
import java.util.regex.Matcher;
import java.util.regex.Pattern;

/** The document once more, told slowly: every answer is found from the log, frame by frame. */
final class Model {
    /** One state; a frame is one call of frame(). */
    static final class State {
        int program = 1;
        int preview = 2;
        int kind = 0;
        int rate = 25;
        int elements = 1;
        int position = 0;
        int run = -1;
        int runs = 0;
        int[][] keyers = {{3, 100, 25, 0}, {4, 100, 25, 0}, {5, 100, 25, 0}};
        TreeSet<Integer> faulty = new TreeSet<>();

        boolean underWay() {
            return position > 0 || run >= 0;
        }

        void complete() {
            if (elements % 2 == 1) {
                int swap = program;
                program = preview;
                preview = swap;
            }
            for (int j = 0; j < 3; j++) {
                if ((elements & 2 << j) != 0) {
                    keyers[j][3] = 1 - keyers[j][3];
                }
            }
            position = 0;
            run = -1;
        }

        void frame() {
            if (run < 0) {
                return;
            }
            run++;
            if (run >= rate) {
                complete();
                runs++;
            } else {
                position = run * 1000 / rate;
            }
        }

        /** The answer of the act's method; null if it is not possible. */
        Integer perform(int[] act) {
            int was;
            switch (act[1]) {
                case 0:
                    was = program;
                    program = act[2];
                    return was;
                case 1:
                    was = preview;
                    preview = act[2];
                    return was;
                case 2:
                    was = kind;
                    kind = act[2];
                    rate = act[3];
                    return was;
                case 3:
                    if (underWay()) {
                        return null;
                    }
                    was = elements;
                    elements = act[2];
                    return was;
                case 4:
                    was = keyers[act[2]][0];
                    System.arraycopy(act, 3, keyers[act[2]], 0, 3);
                    return was;
                case 5:
                    keyers[act[2]][3] = 1 - keyers[act[2]][3];
                    return keyers[act[2]][3];
                case 6:
                    complete();
                    return program;
                case 7:
                    if (underWay()) {
                        return null;
                    }
                    run = 0;
                    return rate;
                case 8:
                    if (run >= 0) {
                        return null;
                    }
                    was = position;
                    position = act[2];
                    if (position == 1000) {
                        complete();
                    }
                    return was;
                default:
                    was = faulty.contains(act[2]) ? 1 : 0;
                    if (act[3] == 1) {
                        faulty.add(act[2]);
                    } else {
                        faulty.remove(act[2]);
                    }
                    return was;
            }
        }

        long[] shares() {
            long[] s = new long[10];
            long t = position;
            if (elements % 2 == 0) {
                s[program] = 1000000;
            } else if (kind < 2) {
                s[program] += (1000 - t) * 1000;
                s[preview] += t * 1000;
            } else if (t <= 500) {
                s[program] += (1000 - 2 * t) * 1000;
                s[0] += 2 * t * 1000;
            } else {
                s[0] += (2000 - 2 * t) * 1000;
                s[preview] += (2 * t - 1000) * 1000;
            }
            for (int j = 0; j < 3; j++) {
                boolean element = (elements >> 1 + j) % 2 == 1;
                long c = keyers[j][1] * keyers[j][2];
                long cover;
                if (keyers[j][3] == 1) {
                    cover = element ? c * (1000 - t) / 1000 : c;
                } else {
                    cover = element ? c * t / 1000 : 0;
                }
                long all = 0;
                for (int i = 0; i < 10; i++) {
                    long taken = s[i] * cover / 10000;
                    s[i] -= taken;
                    all += taken;
                }
                s[keyers[j][0]] += all;
            }
            return s;
        }

        int reds() {
            int set = 0;
            long[] s = shares();
            for (int i = 0; i < 10; i++) {
                set += s[i] > 0 ? 1 << i : 0;
            }
            return set;
        }

        long setting(int what) {
            int[] all = {program, preview, kind, rate, elements, position, run};
            return all[what];
        }
    }

    private static final Pattern ORDERS =
        Pattern.compile("([pv][0-9];|k[0-2][0-9]{1,3};|n[0-7];|[ca];|b[0-9]{1,4};|w[0-9]{1,3};)*");
    private static final Pattern LIMITED = Pattern.compile("(k[0-2]|b)([0-9]+)(?![0-9])");

    private List<int[]> log = new ArrayList<>();
    private int time = 0;
    private String text = "";

    private State at(int when, int without) {
        State state = new State();
        int next = 0;
        for (int now = 0; now <= when; now++) {
            if (now > 0) {
                state.frame();
            }
            for (; next < log.size() && log.get(next)[0] == now; next++) {
                if (next != without) {
                    state.perform(log.get(next));
                }
            }
        }
        return state;
    }

    /** All states from time 0 to the present one would be too many: each is told by its red sources. */
    private int[] redsOfAllTimes() {
        int[] reds = new int[time + 1];
        State state = new State();
        int next = 0;
        for (int now = 0; now <= time; now++) {
            if (now > 0) {
                state.frame();
            }
            for (; next < log.size() && log.get(next)[0] == now; next++) {
                state.perform(log.get(next));
            }
            reds[now] = state.reds();
        }
        return reds;
    }

    private static void index(boolean good) {
        if (!good) {
            throw new IndexOutOfBoundsException();
        }
    }

    private static void argument(int value, int low, int high) {
        if (value < low || value > high) {
            throw new IllegalArgumentException();
        }
    }

    private static void source(int source) {
        index(source >= 0 && source <= 9);
    }

    long enact(int... whatAndArguments) {
        int[] act = {time, whatAndArguments[0], -1, -1, -1, -1};
        System.arraycopy(whatAndArguments, 1, act, 2, whatAndArguments.length - 1);
        switch (act[1]) {
            case 0:
            case 1:
                source(act[2]);
                break;
            case 2:
                argument(act[2], 0, 2);
                argument(act[3], 1, 100);
                break;
            case 3:
                argument(act[2], 0, 15);
                break;
            case 4:
                index(act[2] >= 0 && act[2] <= 2);
                source(act[3]);
                argument(act[4], 0, 100);
                argument(act[5], 1, 100);
                break;
            case 5:
                index(act[2] >= 0 && act[2] <= 2);
                break;
            case 8:
                argument(act[2], 0, 1000);
                break;
            case 9:
                source(act[2]);
                index(act[2] != 0);
                break;
            default:
                break;
        }
        Integer answer = at(time, -1).perform(act);
        if (log.size() == 100 || answer == null) {
            throw new IllegalStateException();
        }
        log.add(act);
        return answer;
    }

    long pass(int frames) {
        argument(frames, 0, 500);
        if (time + frames > 5000) {
            throw new IllegalStateException();
        }
        time += frames;
        return time;
    }

    long setting(int what) {
        argument(what, 0, 8);
        return what == 7 ? time : what == 8 ? log.size() : at(time, -1).setting(what);
    }

    long keyer(int keyer, int what) {
        index(keyer >= 0 && keyer <= 2);
        argument(what, 0, 3);
        return at(time, -1).keyers[keyer][what];
    }

    long share(int source, boolean seen) {
        source(source);
        State state = at(time, -1);
        long share = state.shares()[source];
        if (!seen) {
            return share;
        }
        if (state.faulty.contains(source)) {
            return 0;
        }
        for (int faulty : state.faulty) {
            share += source == 0 ? state.shares()[faulty] : 0;
        }
        return share;
    }

    long tally(int source) {
        source(source);
        State state = at(time, -1);
        if (state.shares()[source] > 0) {
            return 2;
        }
        state.complete();
        return state.shares()[source] > 0 ? 1 : 0;
    }

    double faulty() {
        State state = at(time, -1);
        long sum = 0;
        for (int faulty : state.faulty) {
            sum += state.shares()[faulty];
        }
        return (double) sum / 1000000.0;
    }

    long settingAt(int when, int what) {
        index(when >= 0 && when <= time);
        argument(what, 0, 6);
        return at(when, -1).setting(what);
    }

    long shareAt(int when, int source) {
        index(when >= 0 && when <= time);
        source(source);
        return at(when, -1).shares()[source];
    }

    long timesRed(int source) {
        source(source);
        long times = 0;
        for (int reds : redsOfAllTimes()) {
            times += reds >> source & 1;
        }
        return times;
    }

    long firstRed(int source) {
        source(source);
        int[] reds = redsOfAllTimes();
        for (int when = 0; when < reds.length; when++) {
            if ((reds[when] >> source & 1) == 1) {
                return when;
            }
        }
        return -1;
    }

    long longestShot() {
        int[] reds = redsOfAllTimes();
        int longest = 0;
        int begin = 0;
        for (int when = 0; when < reds.length; when++) {
            if (reds[when] != reds[begin]) {
                begin = when;
            }
            longest = Math.max(longest, when - begin + 1);
        }
        return longest;
    }

    long runs() {
        return at(time, -1).runs;
    }

    long act(int act, int what) {
        index(act >= 0 && act < log.size());
        argument(what, 0, 3);
        return log.get(act)[what];
    }

    long takeOut(int act) {
        index(act >= 0 && act < log.size());
        log.remove(act);
        return log.size();
    }

    long undo() {
        if (log.isEmpty()) {
            throw new IllegalStateException();
        }
        return takeOut(log.size() - 1);
    }

    long redWithout(int act) {
        index(act >= 0 && act < log.size());
        return at(time, act).reds();
    }

    long idle() {
        long[] shares = at(time, -1).shares();
        long count = 0;
        for (int act = 0; act < log.size(); act++) {
            count += java.util.Arrays.equals(shares, at(time, act).shares()) ? 1 : 0;
        }
        return count;
    }

    long append(int value) {
        argument(value, 0, 127);
        if (text.length() == 120) {
            throw new IllegalStateException();
        }
        text += (char) value;
        return text.length();
    }

    long clearText() {
        int length = text.length();
        text = "";
        return length;
    }

    /** -1 if there is none. */
    private int syntaxError() {
        int viable = 0;
        boolean whole = true;
        for (int end = 0; end <= text.length(); end++) {
            Matcher matcher = ORDERS.matcher(text.substring(0, end));
            whole = matcher.matches();
            if (!whole && !matcher.hitEnd()) {
                break;
            }
            viable = end;
        }
        Matcher limited = LIMITED.matcher(text);
        while (limited.find() && limited.end() <= viable) {
            int number = Integer.parseInt(limited.group(2));
            boolean rate = limited.group(1).length() == 2;
            if (rate ? number < 1 || number > 100 : number > 1000) {
                return limited.start(2);
            }
        }
        return whole ? -1 : viable;
    }

    long carryOut() {
        int error = syntaxError();
        if (error >= 0) {
            return -10 - error;
        }
        if (text.isEmpty()) {
            return 0;
        }
        List<int[]> logBefore = new ArrayList<>(log);
        int timeBefore = time;
        String[] orders = text.split(";");
        for (int i = 0; i < orders.length; i++) {
            try {
                carryOut(orders[i]);
            } catch (IllegalStateException | IllegalArgumentException e) {
                log = logBefore;
                time = timeBefore;
                return -1000 - i;
            }
        }
        return orders.length;
    }

    private void carryOut(String order) {
        char sign = order.charAt(0);
        if (sign == 'k') {
            enact(2, order.charAt(1) - '0', Integer.parseInt(order.substring(2)));
        } else if (sign == 'w') {
            pass(Integer.parseInt(order.substring(1)));
        } else if (order.length() == 1) {
            enact(sign == 'c' ? 6 : 7);
        } else {
            int what = sign == 'p' ? 0 : sign == 'v' ? 1 : sign == 'n' ? 3 : 8;
            enact(what, Integer.parseInt(order.substring(1)));
        }
    }

    long digest() {
        long h = 3253;
        h = 31 * h + text.length();
        for (int what = 0; what <= 8; what++) {
            h = 31 * h + setting(what);
        }
        for (int i = 0; i < 12; i++) {
            h = 31 * h + keyer(i / 4, i % 4);
        }
        for (int source = 0; source < 10; source++) {
            h = 31 * h + share(source, false);
            h = 31 * h + share(source, true);
            h = 31 * h + tally(source);
        }
        for (int i = 0; i < 4 * log.size(); i++) {
            h = 31 * h + act(i / 4, i % 4);
        }
        return h;
    }
}
