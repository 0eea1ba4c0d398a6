import java.util.ArrayList;
import java.util.Collections;
import java.util.HashMap;
import java.util.HashSet;
import java.util.List;
import java.util.Map;
import java.util.Set;
import java.util.regex.Pattern;

/** The document once more, written in another way and without care for speed, to compare the program with. */
final class Model {
    private static final Pattern SCRIPT = Pattern.compile(command() + "(;" + command() + ")*");
    private static final String[] ENDINGS = {"", "0", "00", "000", "1", "s"};

    private int length = 60;
    private List<int[]> events = new ArrayList<>();
    private List<int[]> holds = new ArrayList<>();
    private List<Integer> points = new ArrayList<>();
    private List<int[]> constraints = new ArrayList<>();
    private Moment now = new Moment(60);
    private Map<Integer, Moment> saved = new HashMap<>();
    private String buffer = "";

    private static String command() {
        return "([shrx]|c[0-9]|\\+([1-9]|[1-9][0-9]|[1-5][0-9][0-9]|600)|v[0-9][0-9][0-9])";
    }

    private static final class Moment {
        int phase = 0;
        int clock = 0;
        int count;
        int pass = 0;
        int used = 0;
        int recycles = 0;
        int budget = 600;
        int most = 3;
        int presentHold = -1;
        int holdEnd = 0;
        int reason = -1;
        int start = -1;
        int liftoff = -1;
        Set<Integer> fired = new HashSet<>();
        Set<Integer> begun = new HashSet<>();
        Map<List<Integer>, Integer> votes = new HashMap<>();
        List<int[]> windows = new ArrayList<>();
        List<int[]> cutouts = new ArrayList<>();
        List<int[]> log = new ArrayList<>();

        Moment(int count) {
            this.count = count;
        }

        Moment copy() {
            Moment m = new Moment(count);
            m.phase = phase;
            m.clock = clock;
            m.pass = pass;
            m.used = used;
            m.recycles = recycles;
            m.budget = budget;
            m.most = most;
            m.presentHold = presentHold;
            m.holdEnd = holdEnd;
            m.reason = reason;
            m.start = start;
            m.liftoff = liftoff;
            m.fired.addAll(fired);
            m.begun.addAll(begun);
            m.votes.putAll(votes);
            m.windows.addAll(windows);
            m.cutouts.addAll(cutouts);
            m.log.addAll(log);
            return m;
        }

        void note(int kind, int value) {
            log.add(0, new int[] {clock, kind, value});
            if (log.size() > 24) {
                log.remove(24);
            }
        }
    }

    private static void argue(boolean right) {
        if (!right) {
            throw new IllegalArgumentException();
        }
    }

    private static void index(boolean right) {
        if (!right) {
            throw new IndexOutOfBoundsException();
        }
    }

    private static void state(boolean right) {
        if (!right) {
            throw new IllegalStateException();
        }
    }

    private static boolean in(int x, int low, int high) {
        return low <= x && x <= high;
    }

    int begin(int newLength) {
        argue(in(newLength, 1, 3600));
        int before = length;
        length = newLength;
        events = new ArrayList<>();
        holds = new ArrayList<>();
        points = new ArrayList<>();
        constraints = new ArrayList<>();
        saved = new HashMap<>();
        now = new Moment(newLength);
        return before;
    }

    int addEvent(int count, int constraint) {
        argue(in(count, 0, length));
        index(constraint == -1 || in(constraint, 0, constraints.size() - 1));
        state(now.phase == 0 && events.size() < 12);
        events.add(new int[] {count, constraint});
        return events.size() - 1;
    }

    int addHold(int count, int duration) {
        argue(in(count, 0, length) && in(duration, 1, 999));
        for (int[] hold : holds) {
            argue(hold[0] != count);
        }
        state(now.phase == 0 && holds.size() < 4);
        holds.add(new int[] {count, duration});
        return holds.size() - 1;
    }

    int addPoint(int count) {
        argue(in(count, 0, length));
        state(now.phase == 0 && points.size() < 4);
        points.add(count);
        return points.size() - 1;
    }

    int addConstraint(int from, int to, int quorum) {
        argue(in(from, 0, length) && in(to, 0, from) && in(quorum, 1, 5));
        state(now.phase == 0 && constraints.size() < 6);
        constraints.add(new int[] {from, to, quorum});
        return constraints.size() - 1;
    }

    int addSpan(int first, int last, boolean cutout) {
        argue(in(first, 0, 99999) && in(last, first, 99999));
        List<int[]> spans = cutout ? now.cutouts : now.windows;
        state(now.phase < 4 && spans.size() < (cutout ? 6 : 4));
        spans.add(new int[] {first, last});
        return spans.size() - 1;
    }

    int setLimits(int budget, int recycles) {
        argue(in(budget, 0, 9999) && in(recycles, 0, 9));
        int before = now.budget;
        now.budget = budget;
        now.most = recycles;
        return before;
    }

    int vote(int constraint, int voter, int vote) {
        index(in(constraint, 0, constraints.size() - 1) && in(voter, 0, 4));
        argue(in(vote, 0, 2));
        Integer before = now.votes.put(List.of(constraint, voter), vote);
        return before == null ? 0 : before;
    }

    private int votes(int constraint, int vote) {
        int n = 0;
        for (int voter = 0; voter < 5; voter++) {
            n += now.votes.getOrDefault(List.of(constraint, voter), 0) == vote ? 1 : 0;
        }
        return n;
    }

    private boolean go(int constraint) {
        return votes(constraint, 1) >= constraints.get(constraint)[2] && votes(constraint, 1) > votes(constraint, 2);
    }

    private boolean active(int constraint) {
        return in(now.count, constraints.get(constraint)[1], constraints.get(constraint)[0]);
    }

    private List<Integer> standing() {
        List<Integer> list = new ArrayList<>();
        for (int c = 0; c < constraints.size(); c++) {
            if (active(c) && !go(c)) {
                list.add(c);
            }
        }
        return list;
    }

    int command(int what) {
        argue(in(what, 0, 3));
        if (what == 0) {
            state(now.phase == 0);
            now.phase = 1;
            now.pass = 1;
            now.start = now.clock;
        } else if (what == 1) {
            state(now.phase == 1);
            unplanned(10);
        } else if (what == 2) {
            state(now.phase == 3 && standing().isEmpty());
            now.phase = 1;
            now.note(4, now.used);
        } else {
            state(now.phase < 4);
            now.phase = 4;
            now.note(6, 0);
        }
        return now.phase;
    }

    int recycle(int point) {
        index(in(point, 0, points.size() - 1));
        state(now.phase == 3 && points.get(point) >= now.count && now.recycles < now.most);
        int before = now.count;
        now.count = points.get(point);
        now.recycles++;
        now.pass++;
        now.fired.clear();
        now.begun.clear();
        now.note(5, point);
        return before;
    }

    private void unplanned(int reason) {
        now.phase = 3;
        now.reason = reason;
        now.note(3, reason);
    }

    private void second() {
        if (now.phase == 1) {
            running();
        } else if (now.phase == 3) {
            now.used++;
            if (now.used > now.budget) {
                now.phase = 4;
                now.note(6, 1);
            }
        }
        if (now.phase == 2 && now.clock == now.holdEnd) {
            now.phase = 1;
            now.note(2, now.presentHold);
        }
        now.clock++;
    }

    private void running() {
        for (int h = 0; h < holds.size(); h++) {
            if (holds.get(h)[0] == now.count && now.begun.add(h)) {
                now.phase = 2;
                now.presentHold = h;
                now.holdEnd = now.clock + holds.get(h)[1] - 1;
                now.note(1, h);
                return;
            }
        }
        if (!standing().isEmpty()) {
            unplanned(Collections.min(standing()));
            return;
        }
        for (int e = 0; e < events.size(); e++) {
            int[] event = events.get(e);
            if (event[0] == now.count && !now.fired.contains(e)) {
                if (event[1] >= 0 && !go(event[1])) {
                    unplanned(event[1]);
                    return;
                }
                now.fired.add(e);
                now.note(0, e);
            }
        }
        if (now.count > 0) {
            now.count--;
        } else if (open(now.clock)) {
            now.phase = 5;
            now.liftoff = now.clock;
            now.note(7, 0);
        } else {
            unplanned(11);
        }
    }

    int advance(int seconds) {
        argue(in(seconds, 1, 600));
        state(now.clock + seconds <= 99999);
        for (int i = 0; i < seconds; i++) {
            second();
        }
        return now.phase;
    }

    int run() {
        state(in(now.phase, 1, 3) && now.clock + 600 <= 99999);
        int phase = now.phase;
        for (int passed = 1; passed <= 600; passed++) {
            int fired = now.fired.size();
            second();
            if (now.phase != phase || now.fired.size() > fired) {
                return passed;
            }
        }
        return 600;
    }

    int save(int slot) {
        index(in(slot, 0, 2));
        saved.put(slot, now.copy());
        return now.clock;
    }

    int restore(int slot) {
        index(in(slot, 0, 2));
        state(saved.containsKey(slot));
        now = saved.get(slot).copy();
        return now.clock;
    }

    int append(int code) {
        argue(in(code, 33, 126));
        state(buffer.length() < 60);
        buffer += (char) code;
        return buffer.length();
    }

    int clearBuffer() {
        int before = buffer.length();
        buffer = "";
        return before;
    }

    private static boolean begins(String text) {
        for (String ending : ENDINGS) {
            if (SCRIPT.matcher(text + ending).matches()) {
                return true;
            }
        }
        return false;
    }

    int firstError() {
        for (int i = 0; i < buffer.length(); i++) {
            if (!begins(buffer.substring(0, i + 1))) {
                return i;
            }
        }
        return buffer.length();
    }

    int script() {
        state(SCRIPT.matcher(buffer).matches());
        String[] commands = buffer.split(";");
        buffer = "";
        int done = 0;
        for (String command : commands) {
            try {
                carryOut(command);
            } catch (RuntimeException e) {
                return done;
            }
            done++;
        }
        return done;
    }

    private void carryOut(String text) {
        char sign = text.charAt(0);
        if (sign == 'c') {
            recycle(text.charAt(1) - '0');
        } else if (sign == '+') {
            advance(Integer.parseInt(text.substring(1)));
        } else if (sign == 'v') {
            vote(text.charAt(1) - '0', text.charAt(2) - '0', text.charAt(3) - '0');
        } else {
            command("shrx".indexOf(sign));
        }
    }

    int status(int what) {
        argue(in(what, 0, 11));
        int left = now.phase == 2 ? now.holdEnd - now.clock + 1 : 0;
        int reason = now.phase == 3 ? now.reason : -1;
        return new int[] {now.phase, now.clock, now.count, now.used, now.recycles, left, reason, now.log.size(), length,
            now.fired.size(), now.begun.size(), now.pass}[what];
    }

    int items(int sort) {
        argue(in(sort, 0, 5));
        return new int[] {events.size(), holds.size(), points.size(), constraints.size(), now.windows.size(),
            now.cutouts.size()}[sort];
    }

    int constraint(int constraint, int what) {
        index(in(constraint, 0, constraints.size() - 1));
        argue(in(what, 0, 3));
        return new int[] {go(constraint) ? 1 : 0, active(constraint) ? 1 : 0, votes(constraint, 1),
            votes(constraint, 2)}[what];
    }

    /** Walks down count by count. */
    private int reach(int target) {
        int second = now.clock + status(5);
        for (int count = now.count; count >= target; count--) {
            for (int h = 0; h < holds.size(); h++) {
                second += holds.get(h)[0] == count && !now.begun.contains(h) ? holds.get(h)[1] : 0;
            }
            second += count > target ? 1 : 0;
        }
        return second;
    }

    int expected(int event) {
        index(in(event, 0, events.size() - 1));
        boolean none = now.fired.contains(event) || events.get(event)[0] > now.count || now.phase > 3;
        return none ? -1 : reach(events.get(event)[0]);
    }

    int liftoff() {
        return now.phase == 4 ? -1 : now.phase == 5 ? now.liftoff : reach(0);
    }

    private boolean open(int second) {
        return now.windows.stream().anyMatch(w -> in(second, w[0], w[1]))
                && now.cutouts.stream().noneMatch(c -> in(second, c[0], c[1]));
    }

    private int lastOfWindows() {
        return now.windows.stream().mapToInt(w -> w[1]).max().orElse(-1);
    }

    int slack(boolean greatest) {
        if (now.phase > 3) {
            return -1;
        }
        int found = -1;
        for (int second = liftoff(); second <= lastOfWindows(); second++) {
            if (open(second)) {
                found = second - liftoff();
                if (!greatest) {
                    return found;
                }
            }
        }
        return found;
    }

    boolean isOpen(int second) {
        argue(in(second, 0, 99999));
        return open(second);
    }

    int ifRecycled(int point) {
        index(in(point, 0, points.size() - 1));
        if (!in(now.phase, 1, 3) || points.get(point) < now.count) {
            return -1;
        }
        Moment kept = now;
        now = kept.copy();
        now.phase = 1;
        now.begun.clear();
        now.count = points.get(point);
        int second = reach(0);
        now = kept;
        return second;
    }

    int bestPoint() {
        int best = -1;
        long bestKey = Long.MAX_VALUE;
        for (int p = 0; p < points.size(); p++) {
            int second = ifRecycled(p);
            while (second >= 0 && second <= lastOfWindows() && !open(second)) {
                second++;
            }
            long key = (long) second * 100000 + points.get(p) * 10 + p;
            if (second >= 0 && second <= lastOfWindows() && key < bestKey) {
                best = p;
                bestKey = key;
            }
        }
        return best;
    }

    int ifAdvanced(int seconds, int what) {
        argue(in(seconds, 1, 600) && in(what, 0, 11));
        state(now.clock + seconds <= 99999);
        Moment kept = now;
        now = kept.copy();
        advance(seconds);
        int answer = status(what);
        now = kept;
        return answer;
    }

    int log(int entry, int what) {
        index(in(entry, 0, now.log.size() - 1));
        argue(in(what, 0, 2));
        return now.log.get(entry)[what];
    }

    double holdShare() {
        return now.start < 0 || now.clock == now.start ? 0.0 : (double) now.used / (double) (now.clock - now.start);
    }

    long digest() {
        List<Integer> values = new ArrayList<>();
        for (int what = 0; what < 12; what++) {
            values.add(status(what));
        }
        for (int sort = 0; sort < 6; sort++) {
            values.add(items(sort));
        }
        for (int e = 0; e < events.size(); e++) {
            values.add(expected(e));
        }
        for (int c = 0; c < constraints.size() * 4; c++) {
            values.add(constraint(c / 4, c % 4));
        }
        Collections.addAll(values, liftoff(), slack(false), slack(true));
        for (int p = 0; p < points.size(); p++) {
            values.add(ifRecycled(p));
        }
        values.add(bestPoint());
        for (int[] entry : now.log) {
            Collections.addAll(values, entry[0], entry[1], entry[2]);
        }
        values.add(buffer.length());
        buffer.chars().forEach(values::add);
        long hash = 1913;
        for (int value : values) {
            hash = 31 * hash + value;
        }
        return hash;
    }
}
