import java.util.ArrayList;
import java.util.Comparator;
import java.util.HashMap;
import java.util.HashSet;
import java.util.LinkedHashMap;
import java.util.List;
import java.util.Map;
import java.util.Random;
import java.util.Set;

// Random runs of calls, always the same ones, against a slow model that is written from the document's words
// alone: it walks second by second and counts everything anew at each question.
public final class AlertRowsModel {
    private static final int RUNS = 3000;
    // What an object answers behind its 512th call is free, so no run goes further.
    private static final int CALLS = 512;
    private static final int QUESTIONS = 112;

    private static final class Refusal extends RuntimeException {
        private static final long serialVersionUID = 1L;
        private final transient Class<?> due;

        Refusal(Class<?> due) {
            super(null, null, false, false);
            this.due = due;
        }
    }

    private static final class Crew {
        int least;
        int time;
        int next = -1;
    }

    private static final class Man {
        int crew;
        int state;
        final Map<Integer, Boolean> ways = new LinkedHashMap<>();
    }

    private static final class Said {
        final int second;
        final int minutes;

        Said(int second, int minutes) {
            this.second = second;
            this.minutes = minutes;
        }
    }

    private static final class Bell {
        int crew;
        int begin;
        int raiser;
        boolean test;
        boolean closed;
        boolean enough;
        final Set<Integer> asked = new HashSet<>();
        final Map<Integer, Integer> kind = new HashMap<>();
        final Map<Integer, Integer> delay = new HashMap<>();
        final Map<Integer, List<Said>> answers = new HashMap<>();

        boolean inTime(int person, int now) {
            return !closed && kind.containsKey(person) && now >= begin + delay.get(person);
        }

        void say(int person, int now, int minutes) {
            answers.computeIfAbsent(person, key -> new ArrayList<>()).add(new Said(now, minutes));
        }

        List<int[]> coming() {
            List<int[]> all = new ArrayList<>();
            for (Map.Entry<Integer, List<Said>> entry : answers.entrySet()) {
                Said last = entry.getValue().get(entry.getValue().size() - 1);
                if (last.minutes >= 0) {
                    all.add(new int[] {entry.getKey(), last.minutes});
                }
            }
            all.sort(Comparator.<int[]>comparingInt(a -> a[1]).thenComparingInt(a -> a[0]));
            return all;
        }
    }

    private final List<Crew> crews = new ArrayList<>();
    private final List<Man> men = new ArrayList<>();
    private final List<Bell> bells = new ArrayList<>();
    private int now = 0;
    private int late = 0;
    private int early = 0;
    private int seconds = 0;

    private static void need(boolean holds, Class<?> otherwise) {
        if (!holds) {
            throw new Refusal(otherwise);
        }
    }

    private static void known(List<?> rows, int number) {
        need(number >= 0 && number < rows.size(), IllegalArgumentException.class);
    }

    private static void within(int value, int low, int high) {
        need(value >= low && value <= high, IndexOutOfBoundsException.class);
    }

    private int group(int least, int time) {
        within(least, 1, 20);
        within(time, 1, 3600);
        need(crews.size() < 12, UnsupportedOperationException.class);
        Crew crew = new Crew();
        crew.least = least;
        crew.time = time;
        crews.add(crew);
        return crews.size() - 1;
    }

    private int next(int group, int next) {
        known(crews, group);
        if (next != -1) {
            known(crews, next);
            need(next > group, IllegalStateException.class);
        }
        crews.get(group).next = next;
        return 0;
    }

    private int person(int group) {
        known(crews, group);
        need(men.size() < 60, UnsupportedOperationException.class);
        Man man = new Man();
        man.crew = group;
        men.add(man);
        return men.size() - 1;
    }

    private int way(int person, int kind, boolean works) {
        known(men, person);
        within(kind, 0, 2);
        men.get(person).ways.put(kind, works);
        return men.get(person).ways.size();
    }

    private int is(int person, int what) {
        known(men, person);
        within(what, 0, 2);
        men.get(person).state = what;
        return 0;
    }

    private Bell ring(int group, boolean test, int raiser) {
        Bell bell = new Bell();
        bell.crew = group;
        bell.begin = now;
        bell.raiser = raiser;
        bell.test = test;
        for (int person = 0; person < men.size(); person++) {
            Man man = men.get(person);
            if (man.crew != group || man.state == 2 || (man.state == 1 && !test)) {
                continue;
            }
            bell.asked.add(person);
            int waits = 0;
            for (Map.Entry<Integer, Boolean> way : man.ways.entrySet()) {
                if (way.getValue()) {
                    bell.kind.put(person, way.getKey());
                    bell.delay.put(person, waits);
                    break;
                }
                waits += 20;
            }
        }
        return bell;
    }

    private int alarm(int group, boolean test) {
        known(crews, group);
        Bell bell = ring(group, test, -1);
        need(!bell.asked.isEmpty(), IllegalStateException.class);
        need(bells.size() < 60, UnsupportedOperationException.class);
        bells.add(bell);
        return bells.size() - 1;
    }

    private int answer(int alarm, int person, int minutes) {
        known(bells, alarm);
        known(men, person);
        within(minutes, -1, 120);
        Bell bell = bells.get(alarm);
        need(bell.asked.contains(person) && bell.kind.containsKey(person), IllegalStateException.class);
        if (now < bell.begin + bell.delay.get(person)) {
            early++;
            return 4;
        }
        if (bell.inTime(person, now)) {
            bell.say(person, now, minutes);
            return 1;
        }
        late++;
        Bell newest = null;
        for (Bell other : bells) {
            if (!other.closed && other.asked.contains(person)) {
                newest = other;
            }
        }
        if (newest == null || !newest.inTime(person, now)) {
            return 3;
        }
        newest.say(person, now, minutes);
        return 2;
    }

    private int tick(int amount) {
        within(amount, 1, 5000);
        within(now + amount, 0, 999999);
        int raised = 0;
        for (int i = 0; i < amount; i++) {
            now++;
            for (int number = 0; number < bells.size(); number++) {
                Bell bell = bells.get(number);
                Crew crew = crews.get(bell.crew);
                if (bell.closed || now < bell.begin + crew.time) {
                    continue;
                }
                bell.closed = true;
                bell.enough = bell.coming().size() >= crew.least;
                if (!bell.enough && !bell.test && crew.next >= 0 && bells.size() < 60) {
                    Bell second = ring(crew.next, false, number);
                    if (!second.asked.isEmpty()) {
                        bells.add(second);
                        raised++;
                    }
                }
            }
        }
        seconds += raised;
        return raised;
    }

    private int alarmAt(int alarm, int what) {
        known(bells, alarm);
        need(what >= 0 && what <= 6, IllegalArgumentException.class);
        Bell bell = bells.get(alarm);
        int[] all = {!bell.closed ? 0 : bell.enough ? 1 : 2, bell.asked.size(), bell.kind.size(),
            bell.answers.size(), bell.coming().size(), bell.raiser, bell.begin};
        return all[what];
    }

    private int comes(int alarm, int i) {
        known(bells, alarm);
        within(i, 0, Integer.MAX_VALUE);
        List<int[]> all = bells.get(alarm).coming();
        return i < all.size() ? 1000 * all.get(i)[0] + all.get(i)[1] : -1;
    }

    private int reached(int alarm, int person) {
        known(bells, alarm);
        known(men, person);
        Bell bell = bells.get(alarm);
        return bell.kind.containsKey(person) ? 10 * bell.delay.get(person) + bell.kind.get(person) : -1;
    }

    private int share(int group, int what) {
        known(crews, group);
        need(what == 0 || what == 1, IllegalArgumentException.class);
        int upper = 0;
        int lower = 0;
        for (Bell bell : bells) {
            if (bell.closed && bell.crew == group) {
                upper += bell.answers.size();
                lower += bell.asked.size();
            }
        }
        need(lower > 0, ArithmeticException.class);
        for (int divisor = lower; divisor > 1; divisor--) {
            if (upper % divisor == 0 && lower % divisor == 0) {
                upper /= divisor;
                lower /= divisor;
            }
        }
        return what == 0 ? upper : lower;
    }

    private int never(int i) {
        within(i, 0, Integer.MAX_VALUE);
        List<Integer> all = new ArrayList<>();
        for (int person = 0; person < men.size(); person++) {
            int asked = 0;
            boolean answered = false;
            for (Bell bell : bells) {
                if (bell.closed && bell.asked.contains(person)) {
                    asked++;
                    answered |= bell.answers.containsKey(person);
                }
            }
            if (asked >= 3 && !answered) {
                all.add(person);
            }
        }
        return i < all.size() ? all.get(i) : -1;
    }

    private int count(int what) {
        need(what >= 0 && what <= 4, IllegalArgumentException.class);
        int open = 0;
        for (Bell bell : bells) {
            open += bell.closed ? 0 : 1;
        }
        return new int[] {now, open, late, early, seconds}[what];
    }

    private static final String[] NAMES = {"group", "next", "person", "way", "is", "alarm", "answer", "tick",
        "alarmAt", "comes", "reached", "share", "never", "count"};

    private int model(int call, int a, int b, int c) {
        switch (call) {
            case 0: return group(a, b);
            case 1: return next(a, b);
            case 2: return person(a);
            case 3: return way(a, b, c > 0);
            case 4: return is(a, b);
            case 5: return alarm(a, b > 0);
            case 6: return answer(a, b, c);
            case 7: return tick(a);
            case 8: return alarmAt(a, b);
            case 9: return comes(a, b);
            case 10: return reached(a, b);
            case 11: return share(a, b);
            case 12: return never(a);
            default: return count(a);
        }
    }

    private static int real(AlertRows x, int call, int a, int b, int c) {
        switch (call) {
            case 0: return x.group(a, b);
            case 1: x.next(a, b); return 0;
            case 2: return x.person(a);
            case 3: return x.way(a, b, c > 0);
            case 4: x.is(a, b); return 0;
            case 5: return x.alarm(a, b > 0);
            case 6: return x.answer(a, b, c);
            case 7: return x.tick(a);
            case 8: return x.alarmAt(a, b);
            case 9: return x.comes(a, b);
            case 10: return x.reached(a, b);
            case 11: return x.share(a, b);
            case 12: return x.never(a);
            default: return x.count(a);
        }
    }

    private static final int[] WILD = {Integer.MIN_VALUE, Integer.MIN_VALUE + 1, -3, -2, -1, 0, 1, 2, 3, 12, 13, 20,
        21, 59, 60, 61, 120, 121, 3600, 3601, 4999, 5000, 5001, 999999, 1000000, Integer.MAX_VALUE - 1,
        Integer.MAX_VALUE};

    /** A number of a row, now and then one beside it. */
    private static int pick(Random random, int size) {
        return random.nextInt(40) == 0 ? random.nextInt(size + 3) - 2 : size == 0 ? 0 : random.nextInt(size);
    }

    /** Newer alarms are the ones that are still open. */
    private static int pickAlarm(Random random, int size) {
        return random.nextBoolean() ? pick(random, size) : size - 1 - random.nextInt(6);
    }

    private int someoneAsked(Random random, int alarm) {
        if (alarm >= 0 && alarm < bells.size() && random.nextInt(8) != 0) {
            List<Integer> asked = new ArrayList<>(bells.get(alarm).asked);
            return asked.get(random.nextInt(asked.size()));
        }
        return pick(random, men.size());
    }

    private static final class Temper {
        final int groups;
        final int men;
        final int[] times;
        final int longTicks;
        final int least;
        final boolean manyAlarms;

        Temper(Random random) {
            groups = 1 + random.nextInt(random.nextBoolean() ? 3 : 14);
            men = 2 + random.nextInt(random.nextBoolean() ? 8 : 70);
            int[][] all = {{1, 2, 3, 5, 8}, {5, 10, 20, 30}, {19, 20, 21, 39, 40, 41, 60}, {100, 1000, 3600}};
            times = all[random.nextInt(all.length)];
            longTicks = random.nextInt(60) == 0 ? 2 : 40;
            least = 1 + random.nextInt(random.nextBoolean() ? 2 : 20);
            manyAlarms = random.nextInt(5) == 0;
        }
    }

    private int[] nextCall(Random random, Temper temper) {
        if (random.nextInt(60) == 0) {
            return new int[] {random.nextInt(14), wild(random), wild(random), wild(random)};
        }
        if (crews.size() < temper.groups && random.nextInt(3) == 0) {
            return new int[] {0, 1 + random.nextInt(temper.least),
                temper.times[random.nextInt(temper.times.length)], 0};
        }
        if (men.size() < temper.men && random.nextInt(3) == 0) {
            return new int[] {2, pick(random, crews.size()), 0, 0};
        }
        // Without runs of many alarms the room for 60 would hardly ever be full.
        if (temper.manyAlarms && random.nextInt(6) == 0) {
            return new int[] {5, pick(random, crews.size()), random.nextInt(4) - 2, 0};
        }
        int alarm = pickAlarm(random, bells.size());
        switch (random.nextInt(20)) {
            case 0:
                return new int[] {1, pick(random, crews.size()), pick(random, crews.size() + 1) - 1, 0};
            case 1: case 2: case 3: case 4:
                return new int[] {3, pick(random, men.size()), random.nextInt(3), random.nextInt(3)};
            case 5:
                return new int[] {4, pick(random, men.size()), Math.max(0, random.nextInt(5) - 2), 0};
            case 6: case 7:
                return new int[] {5, pick(random, crews.size()), random.nextInt(4) - 2, 0};
            case 8: case 9: case 10: case 11: case 12: case 13:
                return new int[] {6, alarm, someoneAsked(random, alarm), random.nextInt(random.nextBoolean() ? 5 : 122) - 1};
            case 14: case 15:
                return new int[] {7, 1 + random.nextInt(random.nextInt(temper.longTicks) == 0 ? 5000
                    : temper.times[random.nextInt(temper.times.length)]), 0, 0};
            case 16:
                return new int[] {9, alarm, random.nextInt(8) - (random.nextInt(20) == 0 ? 8 : 0), 0};
            case 17:
                return new int[] {10, alarm, pick(random, men.size()), 0};
            case 18:
                return new int[] {11, pick(random, crews.size()), random.nextInt(2), 0};
            default:
                int[][] asks = {{8, alarm, random.nextInt(7), 0}, {12, random.nextInt(8), 0, 0},
                    {13, random.nextInt(5), 0, 0}};
                return asks[random.nextInt(asks.length)];
        }
    }

    private static int wild(Random random) {
        return WILD[random.nextInt(WILD.length)];
    }

    private String modelAnswer(int[] call) {
        try {
            return Integer.toString(model(call[0], call[1], call[2], call[3]));
        } catch (Refusal refusal) {
            return refusal.due.getName();
        }
    }

    private static String realAnswer(AlertRows x, int[] call) {
        try {
            return Integer.toString(real(x, call[0], call[1], call[2], call[3]));
        } catch (RuntimeException e) {
            boolean own = e.getStackTrace().length == 0 || e.getStackTrace()[0].getClassName().startsWith("AlertRows");
            return own ? e.getClass().getName() : "not thrown by the class: " + e;
        }
    }

    /** Whether the call was answered alike; says the call if not. */
    private boolean alike(AlertRows x, int run, int place, int[] call, Map<String, Integer> seen) {
        String due = modelAnswer(call);
        String got = realAnswer(x, call);
        String kind = call[0] == 6 && due.length() == 1 ? "answer " + due
            : NAMES[call[0]] + (due.startsWith("java") ? " " + due : "");
        seen.merge(kind, 1, Integer::sum);
        if (due.equals(got)) {
            return true;
        }
        System.out.println("run " + run + ", call " + place + ": " + NAMES[call[0]] + "(" + call[1] + ", " + call[2]
            + ", " + call[3] + ") answered " + got + ", due is " + due);
        return false;
    }

    /** One of all the questions that can be asked: the last calls of a run are such ones. */
    private int[] question(Random random) {
        int bell = random.nextInt(Math.max(1, bells.size()));
        switch (random.nextInt(8)) {
            case 0:
                return new int[] {13, random.nextInt(5), 0, 0};
            case 1: case 2: case 3:
                return new int[] {8, bell, random.nextInt(7), 0};
            case 4:
                int comers = bell < bells.size() ? bells.get(bell).coming().size() : 0;
                return new int[] {9, bell, random.nextInt(comers + 1), 0};
            case 5:
                return new int[] {10, bell, random.nextInt(Math.max(1, men.size())), 0};
            case 6:
                return new int[] {11, random.nextInt(Math.max(1, crews.size())), random.nextInt(2), 0};
            default:
                return new int[] {12, random.nextInt(random.nextBoolean() ? 3 : 61), 0, 0};
        }
    }

    public static void main(String[] args) {
        int wrong = 0;
        Map<String, Integer> seen = new HashMap<>();
        int raised = 0;
        for (int run = 0; run < RUNS && wrong < 5; run++) {
            Random random = new Random(run);
            Temper temper = new Temper(random);
            AlertRowsModel model = new AlertRowsModel();
            AlertRows x = new AlertRows();
            boolean good = true;
            for (int place = 0; place < CALLS && good; place++) {
                int[] call = place < CALLS - QUESTIONS ? model.nextCall(random, temper) : model.question(random);
                good = model.alike(x, run, place, call, seen);
            }
            wrong += good ? 0 : 1;
            raised += model.seconds;
        }
        String[] wanted = {"answer 1", "answer 2", "answer 3", "answer 4"};
        for (String kind : wanted) {
            if (seen.getOrDefault(kind, 0) < RUNS) {
                wrong++;
                System.out.println("the runs hardly have: " + kind);
            }
        }
        if (args.length > 0) {
            System.out.println(new java.util.TreeMap<>(seen) + " second alarms " + raised);
        }
        System.out.println(wrong == 0 ? RUNS + " random runs are as due" : wrong + " runs are not as due");
        if (wrong != 0) {
            System.exit(1);
        }
    }
}
