import java.util.ArrayList;
import java.util.List;
import java.util.function.Supplier;

// Each sentence of the document that names a boundary has a test of its own here: the last value that is allowed
// and the first that is refused on either side, the exception that is due, and that a refused call changes nothing.
public final class AlertRowsEdges {
    private static final int MOST_CALLS = 512;
    private static final int MIN = Integer.MIN_VALUE;
    private static final int MAX = Integer.MAX_VALUE;

    private static final Class<?> UNKNOWN = IllegalArgumentException.class;
    private static final Class<?> RANGE = IndexOutOfBoundsException.class;
    private static final Class<?> STATE = IllegalStateException.class;
    private static final Class<?> ROOM = UnsupportedOperationException.class;
    private static final Class<?> ARITHMETIC = ArithmeticException.class;

    private interface Call {
        int on(Rows x);
    }

    private interface NumberedCall {
        int on(Rows x, int number);
    }

    /** An object that counts its calls: behind the 512th the document leaves every answer free. */
    private static final class Rows {
        private final AlertRows object = new AlertRows();
        private int calls = 0;

        private AlertRows use() {
            calls++;
            if (calls > MOST_CALLS) {
                throw new AssertionError("a test that calls one object more than 512 times");
            }
            return object;
        }

        int group(int least, int seconds) {
            return use().group(least, seconds);
        }

        int next(int group, int next) {
            use().next(group, next);
            return 0;
        }

        int person(int group) {
            return use().person(group);
        }

        int way(int person, int kind, boolean works) {
            return use().way(person, kind, works);
        }

        int is(int person, int what) {
            use().is(person, what);
            return 0;
        }

        int alarm(int group, boolean test) {
            return use().alarm(group, test);
        }

        int answer(int alarm, int person, int minutes) {
            return use().answer(alarm, person, minutes);
        }

        int tick(int seconds) {
            return use().tick(seconds);
        }

        int alarmAt(int alarm, int what) {
            return use().alarmAt(alarm, what);
        }

        int comes(int alarm, int i) {
            return use().comes(alarm, i);
        }

        int reached(int alarm, int person) {
            return use().reached(alarm, person);
        }

        int share(int group, int what) {
            return use().share(group, what);
        }

        int never(int i) {
            return use().never(i);
        }

        int count(int what) {
            return use().count(what);
        }

        /** A person with ways of kinds 0, 1, .. of which only the last works; 0 ways: none. */
        int personWithWays(int group, int ways) {
            int person = person(group);
            for (int kind = 0; kind < ways; kind++) {
                way(person, kind, kind == ways - 1);
            }
            return person;
        }

        void persons(int group, int many) {
            for (int i = 0; i < many; i++) {
                personWithWays(group, 1);
            }
        }

        void goTo(int second) {
            int rest = second - count(0);
            while (rest > 0) {
                int step = Math.min(rest, 5000);
                tick(step);
                rest -= step;
            }
        }
    }

    private static int wrong = 0;
    private static int checks = 0;

    private static void check(String what, Object want, Object got) {
        checks++;
        if (!want.equals(got)) {
            wrong++;
            System.out.println(what + " answered " + got + ", due is " + want);
        }
    }

    private static String answerOf(Rows x, Call call) {
        try {
            return Integer.toString(call.on(x));
        } catch (RuntimeException e) {
            StackTraceElement[] trace = e.getStackTrace();
            String thrower = trace.length == 0 ? "the machine" : trace[0].getClassName();
            // The machine's own division throws the same class as the document's share: only its text tells them apart.
            boolean divided = "/ by zero".equals(e.getMessage());
            boolean own = !divided && (thrower.equals("AlertRows") || thrower.startsWith("AlertRows$"));
            return own ? e.getClass().getName() : e.getClass().getName() + " thrown by " + thrower;
        }
    }

    private static void due(String sentence, int want, Rows x, Call call) {
        check(sentence, Integer.toString(want), answerOf(x, call));
    }

    private static void allows(String sentence, Rows x, Call call) {
        String got = answerOf(x, call);
        check(sentence, "no exception", got.startsWith("java.") ? got : "no exception");
    }

    private static void refuses(String sentence, Class<?> want, Supplier<Rows> state, Call call) {
        Rows asked = state.get();
        check(sentence, want.getName(), answerOf(asked, call));
        List<String> before = trace(state.get());
        List<String> after = trace(asked);
        for (int i = 0; i < before.size() || i < after.size(); i++) {
            String one = i < before.size() ? before.get(i) : "nothing";
            String other = i < after.size() ? after.get(i) : "nothing";
            check(sentence + ": a refused call changes nothing, but then", one, other);
        }
    }

    /** The first and the last number are allowed, those beside them and the outermost are not. */
    private static void bounds(String sentence, Class<?> want, Supplier<Rows> state, int first, int last,
            NumberedCall call) {
        for (int number : new int[] {first, last}) {
            allows(sentence + " " + number, state.get(), x -> call.on(x, number));
        }
        for (int number : new int[] {first - 1, last + 1, MIN, MIN + 1, MAX - 1, MAX}) {
            refuses(sentence + " " + number, want, state, x -> call.on(x, number));
        }
    }

    /** What an object answers to everything that can be asked, then to calls that bring to light what is hidden. */
    private static List<String> trace(Rows x) {
        List<String> all = new ArrayList<>();
        traceQuestions(x, all);
        traceHidden(x, all);
        return all;
    }

    private static String add(Rows x, List<String> all, String name, Call call) {
        String answer = answerOf(x, call);
        all.add(name + " = " + answer);
        return answer;
    }

    private static final int[] SOME_PERSONS = {0, 1, 2, 3, 58, 59, 60};
    private static final int[] SOME_GROUPS = {0, 1, 2, 10, 11, 12};

    private static void traceQuestions(Rows x, List<String> all) {
        traceCounts(x, all);
        int alarms = 0;
        while (alarms < 61 && !add(x, all, "alarmAt(" + alarms + ", 0)", at(alarms, 0)).startsWith("java.")) {
            alarms++;
        }
        for (int alarm = 0; alarm < alarms; alarm++) {
            if (alarm < 2 || alarm > alarms - 3) {
                traceAlarm(x, all, alarm);
            }
        }
        for (int group : SOME_GROUPS) {
            add(x, all, "share(" + group + ", 0)", y -> y.share(group, 0));
            add(x, all, "share(" + group + ", 1)", y -> y.share(group, 1));
        }
        add(x, all, "never(0)", y -> y.never(0));
        add(x, all, "never(1)", y -> y.never(1));
    }

    private static void traceCounts(Rows x, List<String> all) {
        for (int what = 0; what < 5; what++) {
            int w = what;
            add(x, all, "count(" + w + ")", y -> y.count(w));
        }
    }

    private static Call at(int alarm, int what) {
        return x -> x.alarmAt(alarm, what);
    }

    private static void traceAlarm(Rows x, List<String> all, int alarm) {
        for (int what = 1; what < 7; what++) {
            add(x, all, "alarmAt(" + alarm + ", " + what + ")", at(alarm, what));
        }
        add(x, all, "comes(" + alarm + ", 0)", y -> y.comes(alarm, 0));
        add(x, all, "comes(" + alarm + ", 1)", y -> y.comes(alarm, 1));
        for (int person : SOME_PERSONS) {
            add(x, all, "reached(" + alarm + ", " + person + ")", y -> y.reached(alarm, person));
        }
    }

    private static void traceHidden(Rows x, List<String> all) {
        for (int group : new int[] {0, 1, 2, 11}) {
            String raised = add(x, all, "alarm(" + group + ", false)", y -> y.alarm(group, false));
            if (!raised.startsWith("java.")) {
                traceAlarm(x, all, Integer.parseInt(raised));
            }
            String tested = add(x, all, "alarm(" + group + ", true)", y -> y.alarm(group, true));
            if (!tested.startsWith("java.")) {
                add(x, all, "asked by the test", at(Integer.parseInt(tested), 1));
            }
        }
        add(x, all, "tick(3600)", y -> y.tick(3600));
        add(x, all, "tick(3600)", y -> y.tick(3600));
        traceCounts(x, all);
        traceWays(x, all);
        add(x, all, "person(0)", y -> y.person(0));
        add(x, all, "group(1, 1)", y -> y.group(1, 1));
    }

    /** Only the last kind is left to work: how long it takes tells the order of the others. */
    private static void traceWays(Rows x, List<String> all) {
        for (int person = 0; person < 2; person++) {
            int p = person;
            for (int kind = 0; kind < 3; kind++) {
                int k = kind;
                add(x, all, "way(" + p + ", " + k + ")", y -> y.way(p, k, k == 0));
            }
        }
        String raised = add(x, all, "alarm(0, true)", y -> y.alarm(0, true));
        if (!raised.startsWith("java.")) {
            int alarm = Integer.parseInt(raised);
            add(x, all, "reached(.., 0)", y -> y.reached(alarm, 0));
            add(x, all, "reached(.., 1)", y -> y.reached(alarm, 1));
        }
    }

    /** Something of everything: 3 groups, 6 persons, 5 alarms of which 2 and 4 are open; second 40. */
    private static Rows busy() {
        Rows x = new Rows();
        x.group(1, 30);
        x.group(2, 10);
        x.group(1, 5);
        x.next(0, 1);
        x.personWithWays(0, 1);
        x.personWithWays(0, 2);
        x.person(0);
        x.personWithWays(1, 1);
        x.personWithWays(1, 3);
        x.is(4, 1);
        x.personWithWays(2, 1);
        x.is(5, 2);
        x.alarm(0, false);
        x.answer(0, 0, 5);
        x.answer(0, 1, 3);
        x.tick(20);
        x.answer(0, 1, 7);
        x.alarm(1, true);
        x.tick(10);
        x.alarm(0, false);
        x.answer(0, 0, 9);
        x.alarm(1, false);
        x.answer(0, 1, 2);
        x.tick(10);
        x.alarm(1, false);
        x.answer(4, 3, 0);
        return x;
    }

    private static Rows fullGroups() {
        Rows x = new Rows();
        for (int i = 0; i < 12; i++) {
            x.group(1, 10);
        }
        x.persons(0, 1);
        x.persons(10, 1);
        x.persons(11, 1);
        x.next(0, 11);
        x.next(10, 11);
        return x;
    }

    private static Rows fullPersons() {
        Rows x = new Rows();
        x.group(1, 10);
        x.group(20, 10);
        for (int i = 0; i < 60; i++) {
            x.person(i % 2);
        }
        x.way(0, 0, true);
        x.way(59, 2, false);
        x.way(59, 1, true);
        x.next(0, 1);
        return x;
    }

    /** 60 open alarms of group 0, every other one a test; group 1 is the next one, group 2 has nobody. */
    private static Rows fullAlarms() {
        Rows x = new Rows();
        x.group(1, 3600);
        x.group(1, 10);
        x.group(1, 10);
        x.next(0, 1);
        x.persons(0, 2);
        x.persons(1, 1);
        for (int i = 0; i < 60; i++) {
            x.alarm(0, i % 2 == 1);
        }
        return x;
    }

    /** So many seconds are left, and an alarm is open that 10 seconds would close. */
    private static Rows nearEnd(int left) {
        Rows x = new Rows();
        x.group(1, 10);
        x.group(1, 10);
        x.next(0, 1);
        x.persons(0, 1);
        x.persons(1, 1);
        x.goTo(999999 - left);
        x.alarm(0, false);
        return x;
    }

    public static void main(String[] args) {
        termsTime();
        termsGroups();
        termsPersons();
        termsAlarms();
        termsAnswers();
        termsShareAndNever();
        termsRefusals();
        promises();
        System.out.println(wrong == 0 ? checks + " checks at the edges are as due"
            : wrong + " checks at the edges are not as due");
        if (wrong != 0) {
            System.exit(1);
        }
    }

    private static void termsTime() {
        secondsEndAt999999();
        alarmsAtTheLastSecond();
        reachingsAtTheLastSecond();
        theSecondIsZeroAtFirst();
    }

    private static void termsGroups() {
        atMost12Groups();
        neededPersons1To20();
        needOf20Persons();
        timeForAnswers1To3600();
        timeOf1And3600Seconds();
        nextIsAHigherNumber();
    }

    private static void termsPersons() {
        atMost60Persons();
        kinds0To2EachOnce();
        waysInOrder();
        offRestingOrNeither();
    }

    private static void termsAlarms() {
        atMost60Alarms();
        asksWhoIsNeitherOffNorRestingThen();
        reachedAsItWasWhenAsked();
        eachFailedWayTakes20SecondsMore();
        notReachedWhenAllWaysFail();
        openUntilItsTimeHasPassed();
        enoughOrShort();
        latestAnswerInTimeCounts();
        whatRaisesASecondAlarm();
        aSecondAlarmOnlyWhenItAsksSomebody();
        aSecondAlarmBeginsAtOnce();
        atMost60InAllWithSecondOnes();
        theLastRoomGoesToTheEarlierClosing();
    }

    private static void termsAnswers() {
        minutes0To120OrNot();
        inTimeFromTheReachingOn();
        aLaterAnswerTakesThePlace();
        lateForTheNewestOpenAlarm();
        lateAndInTimeLikewise();
        lateWithoutSuchAnAlarm();
        tooEarlyIsNothing();
    }

    private static void termsShareAndNever() {
        shareOfClosedAlarmsTestsToo();
        neverFromThreeClosedAlarmsOn();
        neverIsOverByOneAnswerInTime();
    }

    private static void termsRefusals() {
        unknownAheadOfRange();
        unknownAheadOfStateAndRoom();
        rangeAheadOfStateAndRoom();
        stateAheadOfRoom();
        unknownAheadOfArithmetic();
    }

    private static void promises() {
        aNewObject();
        groupNumbers();
        nextNoneAndUnknown();
        personNumbers();
        wayNumbers();
        isNumbers();
        alarmNumbers();
        answerNumbers();
        tick1To5000();
        alarmsCloseByNumbersInEachSecond();
        tickTellsItsOwnSecondAlarms();
        alarmAtWhats();
        comesInOrder();
        reachedNumbers();
        shareInLowestTerms();
        neverByNumbers();
        countWhats();
        theLast512thCall();
    }

    // TIME is in seconds, 0 .. 999,999
    private static void secondsEndAt999999() {
        String s = "Terms: seconds to 999,999";
        Rows x = nearEnd(4999);
        due(s, 1, x, y -> y.tick(4999));
        due(s, 999999, x, y -> y.count(0));
        refuses(s + ", 1 beyond", RANGE, () -> nearEnd(4999), y -> y.tick(5000));
        Rows z = nearEnd(1);
        due(s, 0, z, y -> y.tick(1));
        due(s, 999999, z, y -> y.count(0));
        refuses(s + ", 2 where 1 is left", RANGE, () -> nearEnd(1), y -> y.tick(2));
        refuses(s + ", 10 where 9 are left", RANGE, () -> nearEnd(9), y -> y.tick(10));
        for (int seconds : new int[] {1, 2, 5000, 5001, 0, -1, MIN, MAX}) {
            refuses(s + ", none is left", RANGE, () -> nearEnd(0), y -> y.tick(seconds));
        }
    }

    // TIME is in seconds, 0 .. 999,999
    private static void alarmsAtTheLastSecond() {
        String s = "Terms: an alarm at the last seconds";
        Rows x = nearEnd(10);
        due(s, 1, x, y -> y.tick(10));
        due(s + " closes at 999,999", 2, x, at(0, 0));
        due(s + " raises one at once", 999999, x, at(1, 6));
        due(s + ", which stays open", 0, x, at(1, 0));
        due(s + ", and is answered in time", 1, x, y -> y.answer(1, 1, 0));
        Rows z = nearEnd(9);
        due(s, 0, z, y -> y.tick(9));
        due(s + " that ends at 1,000,000 is open", 0, z, at(0, 0));
        due(s + ", too", 1, z, y -> y.alarm(0, true));
        due(s + " begins there", 999999, z, at(1, 6));
        due(s + ", both open", 2, z, y -> y.count(1));
    }

    // TIME is in seconds, 0 .. 999,999
    private static void reachingsAtTheLastSecond() {
        String s = "Terms: a reaching at the last second";
        for (int begin = 999979; begin <= 999980; begin++) {
            Rows x = new Rows();
            x.group(1, 30);
            x.personWithWays(0, 2);
            x.goTo(begin);
            x.alarm(0, false);
            x.goTo(999999);
            due(s + " of " + begin, begin == 999979 ? 1 : 4, x, y -> y.answer(0, 0, 1));
            due(s + " of " + begin, 201, x, y -> y.reached(0, 0));
        }
    }

    // THE SECOND is 0 at first and goes on by tick()
    private static void theSecondIsZeroAtFirst() {
        String s = "Terms: the second is 0 at first";
        Rows x = new Rows();
        due(s, 0, x, y -> y.count(0));
        x.group(1, 1);
        x.persons(0, 1);
        x.alarm(0, false);
        x.answer(0, 0, 0);
        due(s + ", and no other call goes on", 0, x, y -> y.count(0));
        due(s + ", an alarm there", 0, x, at(0, 6));
        x.tick(1);
        due(s + ", then 1", 1, x, y -> y.count(0));
    }

    // GROUPS 0, 1, .. (at most 12)
    private static void atMost12Groups() {
        String s = "Terms: at most 12 groups";
        Rows x = new Rows();
        for (int number = 0; number < 12; number++) {
            due(s, number, x, y -> y.group(1, 1));
        }
        refuses(s, ROOM, AlertRowsEdges::fullGroups, y -> y.group(1, 1));
        refuses(s, ROOM, AlertRowsEdges::fullGroups, y -> y.group(20, 3600));
        due(s + ", the last one has persons", 3, fullGroups(), y -> y.person(11));
    }

    // .. need at least so many PERSONS (1 .. 20)
    private static void neededPersons1To20() {
        bounds("Terms: persons 1 to 20, here", RANGE, AlertRowsEdges::busy, 1, 20, (x, n) -> x.group(n, 5));
        bounds("Terms: persons 1 to 20, first group", RANGE, Rows::new, 1, 20, (x, n) -> x.group(n, 3600));
    }

    // .. need at least so many PERSONS (1 .. 20)
    private static void needOf20Persons() {
        for (int comers = 19; comers <= 21; comers++) {
            Rows x = new Rows();
            x.group(20, 10);
            x.persons(0, 25);
            x.alarm(0, false);
            for (int person = 0; person < comers; person++) {
                x.answer(0, person, 120);
            }
            x.tick(10);
            due("Terms: 20 are needed, " + comers + " come", comers < 20 ? 2 : 1, x, at(0, 0));
        }
    }

    // .. have a TIME (1 .. 3,600 seconds) for answers
    private static void timeForAnswers1To3600() {
        bounds("Terms: a time of 1 to 3,600, here", RANGE, AlertRowsEdges::busy, 1, 3600, (x, n) -> x.group(1, n));
        bounds("Terms: a time of 1 to 3,600, first group", RANGE, Rows::new, 1, 3600, (x, n) -> x.group(20, n));
    }

    // .. have a TIME (1 .. 3,600 seconds) for answers
    private static void timeOf1And3600Seconds() {
        Rows x = new Rows();
        x.group(1, 1);
        x.group(1, 3600);
        x.persons(0, 1);
        x.persons(1, 1);
        x.alarm(0, false);
        x.alarm(1, false);
        due("Terms: a time of 1, open", 0, x, at(0, 0));
        x.tick(1);
        due("Terms: a time of 1, closed", 2, x, at(0, 0));
        x.tick(3598);
        due("Terms: a time of 3,600, open", 0, x, at(1, 0));
        due("Terms: a time of 3,600, in time", 1, x, y -> y.answer(1, 1, 0));
        x.tick(1);
        due("Terms: a time of 3,600, closed", 1, x, at(1, 0));
    }

    // .. and, perhaps, a NEXT group (a higher number)
    private static void nextIsAHigherNumber() {
        String s = "Terms: a next group is a higher number";
        allows(s + ", by 1", fullGroups(), x -> x.next(10, 11));
        allows(s + ", by 11", fullGroups(), x -> x.next(0, 11));
        allows(s + ", from 0 to 1", fullGroups(), x -> x.next(0, 1));
        refuses(s + ", not the same", STATE, AlertRowsEdges::fullGroups, x -> x.next(0, 0));
        refuses(s + ", not the same last", STATE, AlertRowsEdges::fullGroups, x -> x.next(11, 11));
        refuses(s + ", not one lower", STATE, AlertRowsEdges::fullGroups, x -> x.next(11, 10));
        refuses(s + ", not the lowest", STATE, AlertRowsEdges::fullGroups, x -> x.next(10, 0));
        refuses(s + ", a set one stays", STATE, AlertRowsEdges::busy, x -> x.next(0, 0));
    }

    // PERSONS 0, 1, .. (at most 60)
    private static void atMost60Persons() {
        String s = "Terms: at most 60 persons";
        Rows x = new Rows();
        x.group(1, 10);
        for (int number = 0; number < 60; number++) {
            due(s, number, x, y -> y.person(0));
        }
        refuses(s, ROOM, AlertRowsEdges::fullPersons, y -> y.person(0));
        refuses(s, ROOM, AlertRowsEdges::fullPersons, y -> y.person(1));
        Rows z = fullPersons();
        z.alarm(1, false);
        due(s + ", the last one is asked", 30, z, at(0, 1));
        due(s + ", the last one is reached", 201, z, y -> y.reached(0, 59));
        z.tick(9);
        due(s + ", the last one answers", 4, z, y -> y.answer(0, 59, 120));
    }

    // .. have up to 3 WAYS (kinds 0 pager, 1 call, 2 siren, each once)
    private static void kinds0To2EachOnce() {
        String s = "Terms: up to 3 ways, each kind once";
        bounds(s + ", kind", RANGE, AlertRowsEdges::busy, 0, 2, (x, n) -> x.way(2, n, true));
        bounds(s + ", kind of one with all ways", RANGE, AlertRowsEdges::busy, 0, 2, (x, n) -> x.way(4, n, false));
        Rows x = busy();
        int[][] calls = {{2, 1}, {2, 1}, {1, 2}, {2, 2}, {1, 2}, {0, 3}, {0, 3}, {1, 3}, {2, 3}};
        for (int[] call : calls) {
            due(s, call[1], x, y -> y.way(2, call[0], true));
        }
    }

    // .. WAYS .. in order, each works or fails
    private static void waysInOrder() {
        int[][] orders = {{0, 1, 2}, {0, 2, 1}, {1, 0, 2}, {1, 2, 0}, {2, 0, 1}, {2, 1, 0}};
        for (int[] order : orders) {
            for (int works = 0; works < 8; works++) {
                Rows x = new Rows();
                x.group(1, 10);
                x.person(0);
                int want = -1;
                for (int place = 2; place >= 0; place--) {
                    want = (works >> place & 1) == 1 ? 200 * place + order[place] : want;
                }
                for (int place = 0; place < 3; place++) {
                    x.way(0, order[place], (works >> place & 1) == 1);
                }
                x.alarm(0, false);
                due("Terms: ways in order", want, x, y -> y.reached(0, 0));
                due("Terms: ways in order, reached", want < 0 ? 0 : 1, x, at(0, 2));
            }
        }
    }

    // .. they are OFF, RESTING, or neither
    private static void offRestingOrNeither() {
        for (int person = 0; person < 6; person++) {
            int p = person;
            bounds("Terms: off, resting or neither", RANGE, AlertRowsEdges::busy, 0, 2, (x, n) -> x.is(p, n));
        }
    }

    // ALARMS 0, 1, .. (at most 60)
    private static void atMost60Alarms() {
        String s = "Terms: at most 60 alarms";
        Rows x = new Rows();
        x.group(1, 1);
        x.persons(0, 1);
        for (int number = 0; number < 60; number++) {
            boolean test = number % 3 == 0;
            due(s, number, x, y -> y.alarm(0, test));
            x.tick(1);
        }
        due(s + ", closed ones count too", 0, x, y -> y.count(1));
        check(s + ", the 61st", ROOM.getName(), answerOf(x, y -> y.alarm(0, false)));
        refuses(s, ROOM, AlertRowsEdges::fullAlarms, y -> y.alarm(0, false));
        refuses(s, ROOM, AlertRowsEdges::fullAlarms, y -> y.alarm(0, true));
        refuses(s, ROOM, AlertRowsEdges::fullAlarms, y -> y.alarm(1, false));
    }

    // an alarm asks each person of it who is neither off nor resting then (of a TEST: those who rest, too)
    private static void asksWhoIsNeitherOffNorRestingThen() {
        String s = "Terms: asks who is neither off nor resting";
        for (int before = 0; before < 3; before++) {
            for (int after = 0; after < 3; after++) {
                for (int test = 0; test < 2; test++) {
                    boolean asked = before == 0 || (before == 1 && test == 1);
                    Rows x = new Rows();
                    x.group(1, 10);
                    x.persons(0, 2);
                    x.is(0, before);
                    x.alarm(0, test == 1);
                    x.is(0, after);
                    due(s, asked ? 2 : 1, x, at(0, 1));
                    due(s, asked ? 0 : -1, x, y -> y.reached(0, 0));
                    check(s + ", then", asked ? "1" : STATE.getName(), answerOf(x, y -> y.answer(0, 0, 0)));
                }
            }
        }
    }

    // REACHED by the first of their ways that works (when it was asked ..)
    private static void reachedAsItWasWhenAsked() {
        String s = "Terms: ways as they were when it was asked";
        Rows x = new Rows();
        x.group(1, 100);
        x.personWithWays(0, 2);
        x.person(0);
        x.alarm(0, false);
        x.way(0, 0, true);
        x.way(0, 1, false);
        x.way(1, 0, true);
        due(s + ", reached", 201, x, y -> y.reached(0, 0));
        due(s + ", not reached", -1, x, y -> y.reached(0, 1));
        due(s + ", one reached", 1, x, at(0, 2));
        due(s + ", too early", 4, x, y -> y.answer(0, 0, 1));
        check(s + ", refused", STATE.getName(), answerOf(x, y -> y.answer(0, 1, 1)));
        x.tick(20);
        due(s + ", in time", 1, x, y -> y.answer(0, 0, 1));
        x.alarm(0, false);
        due(s + ", the next alarm", 0, x, y -> y.reached(1, 0));
        due(s + ", the next alarm", 0, x, y -> y.reached(1, 1));
    }

    // .. each way that failed takes 20 seconds more
    private static void eachFailedWayTakes20SecondsMore() {
        String s = "Terms: each way that failed takes 20 seconds more";
        for (int ways = 1; ways <= 3; ways++) {
            int takes = 20 * (ways - 1);
            Rows x = new Rows();
            x.group(1, 100);
            x.personWithWays(0, ways);
            x.tick(3);
            x.alarm(0, false);
            due(s, 10 * takes + ways - 1, x, y -> y.reached(0, 0));
            if (takes > 0) {
                due(s + ", at once", 4, x, y -> y.answer(0, 0, 1));
                x.tick(takes - 1);
                due(s + ", a second ahead", 4, x, y -> y.answer(0, 0, 1));
                x.tick(1);
            }
            due(s + ", in that second", 1, x, y -> y.answer(0, 0, 1));
        }
    }

    // one whose ways all fail (or who has none) is not
    private static void notReachedWhenAllWaysFail() {
        String s = "Terms: not reached, ways ";
        for (int ways = 0; ways <= 3; ways++) {
            int many = ways;
            Supplier<Rows> state = () -> {
                Rows x = new Rows();
                x.group(1, 100);
                x.person(0);
                for (int kind = 0; kind < many; kind++) {
                    x.way(0, kind, false);
                }
                x.alarm(0, false);
                return x;
            };
            due(s + ways + ", asked", 1, state.get(), at(0, 1));
            due(s + ways, 0, state.get(), at(0, 2));
            due(s + ways, -1, state.get(), x -> x.reached(0, 0));
            refuses(s + ways, STATE, state, x -> x.answer(0, 0, 1));
            refuses(s + ways + ", 20 seconds a way later", STATE, () -> {
                Rows x = state.get();
                x.tick(60);
                return x;
            }, x -> x.answer(0, 0, -1));
            refuses(s + ways + ", closed", STATE, () -> {
                Rows x = state.get();
                x.tick(100);
                return x;
            }, x -> x.answer(0, 0, 1));
        }
    }

    // An alarm is OPEN until its time has passed; at that second it is closed
    private static void openUntilItsTimeHasPassed() {
        String s = "Terms: open until its time has passed";
        Rows x = new Rows();
        x.group(1, 10);
        x.persons(0, 1);
        x.tick(7);
        x.alarm(0, false);
        x.tick(9);
        due(s + ", a second ahead", 0, x, at(0, 0));
        due(s + ", a second ahead", 1, x, y -> y.count(1));
        due(s + ", a second ahead", 1, x, y -> y.answer(0, 0, 1));
        x.tick(1);
        due(s + ", at that second", 1, x, at(0, 0));
        due(s + ", at that second", 0, x, y -> y.count(1));
        due(s + ", at that second", 3, x, y -> y.answer(0, 0, -1));
        x.tick(5000);
        due(s + ", ever after", 1, x, at(0, 0));
    }

    // ENOUGH when those .. are as many as the group needs, otherwise it is SHORT
    private static void enoughOrShort() {
        for (int least = 1; least <= 3; least++) {
            for (int comers = 0; comers <= 4; comers++) {
                Rows x = new Rows();
                x.group(least, 10);
                x.persons(0, 4);
                x.alarm(0, false);
                for (int person = 0; person < 4; person++) {
                    x.answer(0, person, person < comers ? 0 : -1);
                }
                due("Terms: not yet enough or short", 0, x, at(0, 0));
                x.tick(10);
                due("Terms: enough or short", comers >= least ? 1 : 2, x, at(0, 0));
            }
        }
        Rows x = new Rows();
        x.group(3, 10);
        x.persons(0, 2);
        x.alarm(0, false);
        x.answer(0, 0, 0);
        x.answer(0, 1, 0);
        x.tick(10);
        due("Terms: short where fewer are asked than needed", 2, x, at(0, 0));
    }

    // .. those whose latest answer in time says that they come
    private static void latestAnswerInTimeCounts() {
        String s = "Terms: the latest answer in time";
        int[][] cases = {{5, -1, 2}, {-1, 5, 1}, {120, 0, 1}, {-1, -1, 2}};
        for (int[] one : cases) {
            Rows x = new Rows();
            x.group(1, 10);
            x.persons(0, 1);
            x.alarm(0, false);
            x.answer(0, 0, one[0]);
            x.answer(0, 0, one[1]);
            x.tick(10);
            x.answer(0, 0, one[0]);
            due(s, one[2], x, at(0, 0));
            due(s + ", answered", 1, x, at(0, 3));
            due(s + ", comes", one[2] == 1 ? 1 : 0, x, at(0, 4));
            due(s + ", minutes", one[1], x, y -> y.comes(0, 0));
        }
    }

    // A short one that is no test, of a group with a next one, raises a SECOND alarm
    private static void whatRaisesASecondAlarm() {
        for (int bits = 0; bits < 8; bits++) {
            boolean enough = (bits & 1) == 1;
            boolean test = (bits & 2) == 2;
            boolean next = (bits & 4) == 4;
            boolean raises = !enough && !test && next;
            Rows x = new Rows();
            x.group(1, 10);
            x.group(1, 10);
            x.next(0, next ? 1 : -1);
            x.persons(0, 1);
            x.persons(1, 1);
            x.alarm(0, test);
            x.answer(0, 0, enough ? 0 : -1);
            due("Terms: raises a second one " + bits, raises ? 1 : 0, x, y -> y.tick(10));
            due("Terms: raises a second one " + bits, raises ? 1 : 0, x, y -> y.count(4));
            check("Terms: raises a second one " + bits, raises ? "0" : UNKNOWN.getName(), answerOf(x, at(1, 5)));
        }
    }

    // .. when it would ask somebody
    private static void aSecondAlarmOnlyWhenItAsksSomebody() {
        String s = "Terms: a second alarm when it would ask somebody";
        for (int state = -1; state <= 2; state++) {
            Rows x = new Rows();
            x.group(1, 10);
            x.group(1, 10);
            x.next(0, 1);
            x.persons(0, 1);
            if (state >= 0) {
                // Without ways: who is asked but not reached is somebody who is asked.
                x.is(x.person(1), state);
            }
            x.alarm(0, false);
            due(s + ", person " + state, state == 0 ? 1 : 0, x, y -> y.tick(10));
            due(s + ", short all the same", 2, x, at(0, 0));
            due(s + ", counted", state == 0 ? 1 : 0, x, y -> y.count(4));
            due(s + ", the next number", state == 0 ? 2 : 1, x, y -> y.alarm(0, false));
        }
    }

    // .. raises a SECOND alarm of that, at once
    private static void aSecondAlarmBeginsAtOnce() {
        String s = "Terms: a second alarm at once";
        Rows x = new Rows();
        x.group(1, 10);
        x.group(1, 20);
        x.next(0, 1);
        x.persons(0, 1);
        x.persons(1, 1);
        x.alarm(0, false);
        due(s, 1, x, y -> y.tick(29));
        due(s + ", at the closing within the tick", 10, x, at(1, 6));
        due(s + ", open a second ahead of its end", 0, x, at(1, 0));
        due(s + ", in time", 1, x, y -> y.answer(1, 1, 0));
        x.tick(1);
        due(s + ", closed at its end", 1, x, at(1, 0));
        x.alarm(0, false);
        due(s, 1, x, y -> y.tick(30));
        due(s + ", closed in the tick that raised it", 2, x, at(3, 0));
        due(s + ", by which", 2, x, at(3, 5));
        due(s + ", begun", 40, x, at(3, 6));
    }

    // (at most 60 in all: otherwise none)
    private static void atMost60InAllWithSecondOnes() {
        String s = "Terms: at most 60 in all";
        for (int alarms = 58; alarms <= 60; alarms++) {
            int room = 60 - alarms;
            int last = alarms - 1;
            Rows x = new Rows();
            x.group(1, 10);
            x.group(1, 5);
            x.next(0, 1);
            x.persons(0, 1);
            x.persons(1, 1);
            for (int i = 0; i < alarms; i++) {
                x.alarm(0, false);
            }
            due(s + ", room for " + room, room, x, y -> y.tick(10));
            due(s + ", counted", room, x, y -> y.count(4));
            due(s + ", open", room, x, y -> y.count(1));
            due(s + ", the last is short", 2, x, at(last, 0));
            check(s + ", none behind the 60th", UNKNOWN.getName(), answerOf(x, at(60, 0)));
            if (room > 0) {
                due(s + ", by the lowest numbers", room - 1, x, at(59, 5));
            }
            check(s + ", full", ROOM.getName(), answerOf(x, y -> y.alarm(0, false)));
        }
    }

    // (at most 60 in all: otherwise none)
    private static void theLastRoomGoesToTheEarlierClosing() {
        String s = "Terms: at most 60 in all, the last room";
        Rows x = new Rows();
        x.group(1, 30);
        x.group(1, 20);
        x.group(1, 10);
        for (int group = 0; group < 3; group++) {
            x.persons(group, 1);
        }
        x.next(0, 2);
        x.next(1, 2);
        for (int i = 0; i < 58; i++) {
            x.alarm(0, false);
        }
        x.alarm(1, false);
        due(s, 1, x, y -> y.tick(5000));
        due(s + " goes to the earlier closing", 58, x, at(59, 5));
        due(s + ", at its second", 20, x, at(59, 6));
        due(s + ", and it closes too", 2, x, at(59, 0));
        due(s + ", all are closed", 0, x, y -> y.count(1));
    }

    // a person who was asked says COMING in so many minutes (0 .. 120), or NOT
    private static void minutes0To120OrNot() {
        String s = "Terms: minutes 0 to 120, or not, ";
        bounds(s + "in time", RANGE, AlertRowsEdges::busy, -1, 120, (x, n) -> x.answer(2, 0, n));
        bounds(s + "too early", RANGE, AlertRowsEdges::busy, -1, 120, (x, n) -> x.answer(2, 1, n));
        bounds(s + "late", RANGE, AlertRowsEdges::busy, -1, 120, (x, n) -> x.answer(0, 0, n));
        for (int minutes : new int[] {-1, 0, 1, 119, 120}) {
            Rows x = busy();
            due(s + minutes, 1, x, y -> y.answer(2, 0, minutes));
            due(s + minutes, minutes, x, y -> y.comes(2, 0));
            due(s + minutes, 1, x, at(2, 3));
            due(s + minutes, minutes < 0 ? 0 : 1, x, at(2, 4));
        }
    }

    // .. open, and the person was reached by then (the second is not below that of the reaching)
    private static void inTimeFromTheReachingOn() {
        String s = "Terms: in time from the reaching on";
        for (int time = 20; time <= 22; time++) {
            Rows x = new Rows();
            x.group(1, time);
            x.personWithWays(0, 2);
            x.alarm(0, false);
            x.tick(19);
            due(s + ", below", 4, x, y -> y.answer(0, 0, 1));
            x.tick(1);
            due(s + ", not below, time " + time, time == 20 ? 3 : 1, x, y -> y.answer(0, 0, 1));
            x.tick(1);
            due(s + ", a second later, time " + time, time <= 21 ? 3 : 1, x, y -> y.answer(0, 0, 1));
            due(s + ", answered, time " + time, time == 20 ? 0 : 1, x, at(0, 3));
            due(s + ", reached, time " + time, 1, x, at(0, 2));
        }
    }

    // a later one takes the place of an earlier one
    private static void aLaterAnswerTakesThePlace() {
        String s = "Terms: a later answer takes the place";
        Rows x = new Rows();
        x.group(1, 10);
        x.persons(0, 2);
        x.alarm(0, false);
        x.answer(0, 1, 4);
        x.answer(0, 0, 3);
        for (int minutes : new int[] {0, 120, -1, 5, 4}) {
            due(s, 1, x, y -> y.answer(0, 0, minutes));
            due(s + ", both answered", 2, x, at(0, 3));
            due(s + ", come", minutes < 0 ? 1 : 2, x, at(0, 4));
            boolean first = minutes >= 0 && minutes <= 4;
            due(s + ", first", first ? minutes : 1004, x, y -> y.comes(0, 0));
            due(s + ", second", first ? 1004 : minutes, x, y -> y.comes(0, 1));
            due(s + ", no more", -1, x, y -> y.comes(0, 2));
        }
    }

    // LATE: it counts .. for the newest open alarm (the greatest number) that asked this person
    private static void lateForTheNewestOpenAlarm() {
        String s = "Terms: late, for the newest open alarm";
        Rows x = new Rows();
        x.group(1, 10);
        x.group(1, 100);
        x.persons(0, 2);
        x.persons(1, 1);
        x.alarm(0, false);
        x.tick(10);
        due(s + ", none is open", 3, x, y -> y.answer(0, 0, 1));
        x.alarm(1, false);
        due(s + ", none that asked", 3, x, y -> y.answer(0, 0, 1));
        x.alarm(0, true);
        due(s + ", a test", 2, x, y -> y.answer(0, 0, 2));
        x.alarm(0, false);
        x.alarm(1, false);
        due(s + ", the greatest number that asked", 2, x, y -> y.answer(0, 0, 3));
        due(s + ", there", 3, x, y -> y.comes(3, 0));
        due(s + ", not there", 2, x, y -> y.comes(2, 0));
        x.is(0, 2);
        x.alarm(0, false);
        due(s + ", one that did not ask is passed", 2, x, y -> y.answer(0, 0, 4));
        due(s + ", there", 4, x, y -> y.comes(3, 0));
        due(s + ", not there", -1, x, y -> y.comes(5, 0));
        due(s + ", of the other person", 2, x, y -> y.answer(0, 1, 5));
        due(s + ", there", 1005, x, y -> y.comes(5, 0));
        due(s + ", nothing for the closed one", 0, x, at(0, 3));
        due(s + ", all are late ones", 6, x, y -> y.count(2));
    }

    // .. where it is in time likewise; when it is not .. it is only counted as late
    private static void lateAndInTimeLikewise() {
        String s = "Terms: late, in time likewise";
        Rows x = new Rows();
        x.group(1, 30);
        x.personWithWays(0, 1);
        x.alarm(0, false);
        x.tick(30);
        x.alarm(0, false);
        x.way(0, 0, false);
        x.way(0, 1, true);
        x.alarm(0, false);
        due(s + ", ahead of that reaching", 3, x, y -> y.answer(0, 0, 1));
        x.tick(19);
        due(s + ", a second ahead", 3, x, y -> y.answer(0, 0, 1));
        due(s + ", no older one gets it", 0, x, at(1, 3));
        due(s + ", it is not too early", 0, x, y -> y.count(3));
        x.tick(1);
        due(s + ", at that reaching", 2, x, y -> y.answer(0, 0, 2));
        due(s + ", there", 2, x, y -> y.comes(2, 0));
        x.way(0, 1, false);
        x.alarm(0, false);
        due(s + ", not reached by the newest", 3, x, y -> y.answer(0, 0, 3));
        due(s + ", the older one as it was", 2, x, y -> y.comes(2, 0));
        due(s + ", all are late ones", 4, x, y -> y.count(2));
    }

    // .. or without such an alarm, it is only counted as late
    private static void lateWithoutSuchAnAlarm() {
        String s = "Terms: late, without such an alarm";
        Rows x = new Rows();
        x.group(1, 10);
        x.persons(0, 1);
        x.alarm(0, false);
        x.tick(5);
        x.alarm(0, false);
        x.tick(5);
        due(s + ", not yet", 2, x, y -> y.answer(0, 0, 1));
        x.tick(4);
        due(s + ", a second ahead of its closing", 2, x, y -> y.answer(0, 0, 2));
        x.tick(1);
        due(s + ", at its closing", 3, x, y -> y.answer(0, 0, 3));
        due(s + ", an answer to the other", 3, x, y -> y.answer(1, 0, 3));
        due(s + ", the answer of before", 2, x, y -> y.comes(1, 0));
        due(s + ", counted", 4, x, y -> y.count(2));
        due(s + ", none answered the first", 0, x, at(0, 3));
    }

    // An answer ahead of the reaching is TOO EARLY, and nothing (also to one that is closed)
    private static void tooEarlyIsNothing() {
        String s = "Terms: too early";
        Rows x = new Rows();
        x.group(1, 10);
        x.personWithWays(0, 3);
        x.alarm(0, false);
        due(s + ", open", 4, x, y -> y.answer(0, 0, 1));
        x.tick(9);
        due(s + ", the last open second", 4, x, y -> y.answer(0, 0, 1));
        x.tick(1);
        due(s + ", closed", 4, x, y -> y.answer(0, 0, 1));
        x.tick(29);
        x.way(0, 0, true);
        x.alarm(0, false);
        due(s + ", closed, a second ahead", 4, x, y -> y.answer(0, 0, 1));
        due(s + ", nothing for the open one", 0, x, at(1, 3));
        due(s + ", nothing for the closed one", 0, x, at(0, 3));
        due(s + ", not late", 0, x, y -> y.count(2));
        due(s + ", counted", 4, x, y -> y.count(3));
        x.tick(1);
        due(s + ", no more", 2, x, y -> y.answer(0, 0, 1));
        due(s + ", counted as before", 4, x, y -> y.count(3));
    }

    // THE SHARE of a group: .. of all its alarms that are closed (tests, too)
    private static void shareOfClosedAlarmsTestsToo() {
        String s = "Terms: the share";
        for (int test = 0; test < 2; test++) {
            boolean isTest = test == 1;
            Supplier<Rows> state = () -> {
                Rows x = new Rows();
                x.group(1, 10);
                x.group(1, 10);
                x.persons(0, 3);
                x.persons(1, 1);
                x.alarm(0, isTest);
                x.answer(0, 0, -1);
                x.tick(9);
                return x;
            };
            refuses(s + ", a second ahead of the closing", ARITHMETIC, state, x -> x.share(0, 0));
            refuses(s + ", a second ahead of the closing", ARITHMETIC, state, x -> x.share(0, 1));
            Rows x = state.get();
            x.tick(1);
            due(s + ", at the closing", 1, x, y -> y.share(0, 0));
            due(s + ", at the closing", 3, x, y -> y.share(0, 1));
            check(s + ", of the other group", ARITHMETIC.getName(), answerOf(x, y -> y.share(1, 0)));
            x.answer(0, 1, 0);
            x.alarm(0, isTest);
            x.answer(1, 1, 0);
            due(s + ", late and open ones are not in it", 1, x, y -> y.share(0, 0));
            due(s + ", late and open ones are not in it", 3, x, y -> y.share(0, 1));
            x.answer(0, 2, 0);
            x.tick(10);
            due(s + ", with one late for another alarm", 1, x, y -> y.share(0, 0));
            due(s + ", with one late for another alarm", 2, x, y -> y.share(0, 1));
        }
    }

    // NEVER: a person who was asked by three closed alarms or more
    private static void neverFromThreeClosedAlarmsOn() {
        String s = "Terms: never, asked by three closed alarms";
        Rows x = new Rows();
        x.group(1, 10);
        x.persons(0, 1);
        x.person(0);
        for (int i = 0; i < 2; i++) {
            x.alarm(0, i == 1);
            x.tick(10);
            due(s + ", only " + (i + 1), -1, x, y -> y.never(0));
        }
        x.alarm(0, false);
        x.tick(9);
        due(s + ", the third is open", -1, x, y -> y.never(0));
        x.tick(1);
        due(s + ", the third is closed", 0, x, y -> y.never(0));
        due(s + ", who is not reached, too", 1, x, y -> y.never(1));
        due(s + ", no more", -1, x, y -> y.never(2));
        x.alarm(0, false);
        x.tick(10);
        due(s + ", or more", 0, x, y -> y.never(0));
    }

    // .. and answered none of them in time
    private static void neverIsOverByOneAnswerInTime() {
        String s = "Terms: never, answered none in time";
        for (int answered = 0; answered < 4; answered++) {
            for (int minutes = -1; minutes < 1; minutes++) {
                Rows x = new Rows();
                x.group(1, 10);
                x.persons(0, 2);
                for (int alarm = 0; alarm < 4; alarm++) {
                    x.alarm(0, false);
                    if (alarm == answered) {
                        x.answer(alarm, 0, minutes);
                    }
                    if (alarm == 3) {
                        due(s + ", an open one does not count", answered < 3 ? 1 : 0, x, y -> y.never(0));
                    }
                    x.tick(10);
                    int closed = alarm;
                    due(s + ", late is not in time", 3, x, y -> y.answer(closed, 1, 5));
                }
                due(s + ", one answer is enough", 1, x, y -> y.never(0));
                due(s + ", no more", -1, x, y -> y.never(1));
            }
        }
        Rows x = new Rows();
        x.group(1, 10);
        x.persons(0, 1);
        for (int alarm = 0; alarm < 3; alarm++) {
            x.alarm(0, false);
            if (alarm == 2) {
                x.answer(0, 0, 0);
            }
            x.tick(10);
        }
        due(s + ", late but in time for another alarm", -1, x, y -> y.never(0));
    }

    // Refusals: unknown numbers IllegalArgumentException, outside of a range ..; the first of these that is so
    private static void unknownAheadOfRange() {
        String s = "Terms: unknown ahead of range, ";
        Supplier<Rows> busy = AlertRowsEdges::busy;
        refuses(s + "way", UNKNOWN, busy, x -> x.way(6, 3, true));
        refuses(s + "way", UNKNOWN, busy, x -> x.way(-1, -1, false));
        refuses(s + "is", UNKNOWN, busy, x -> x.is(6, 3));
        refuses(s + "is", UNKNOWN, busy, x -> x.is(-1, -1));
        refuses(s + "answer, alarm", UNKNOWN, busy, x -> x.answer(5, 0, 121));
        refuses(s + "answer, alarm", UNKNOWN, busy, x -> x.answer(-1, 0, -2));
        refuses(s + "answer, person", UNKNOWN, busy, x -> x.answer(0, 6, 121));
        refuses(s + "answer, person", UNKNOWN, busy, x -> x.answer(0, -1, -2));
        refuses(s + "comes", UNKNOWN, busy, x -> x.comes(5, -1));
        refuses(s + "comes", UNKNOWN, busy, x -> x.comes(-1, -1));
    }

    // .. not in this state IllegalStateException, no room UnsupportedOperationException; the first of these
    private static void unknownAheadOfStateAndRoom() {
        String s = "Terms: unknown ahead of state and room, ";
        refuses(s + "next, group", UNKNOWN, AlertRowsEdges::busy, x -> x.next(3, 0));
        refuses(s + "next, group", UNKNOWN, AlertRowsEdges::busy, x -> x.next(3, 3));
        refuses(s + "next, next", UNKNOWN, AlertRowsEdges::busy, x -> x.next(2, -2));
        refuses(s + "person", UNKNOWN, AlertRowsEdges::fullPersons, x -> x.person(2));
        refuses(s + "person", UNKNOWN, AlertRowsEdges::fullPersons, x -> x.person(-1));
        refuses(s + "alarm", UNKNOWN, AlertRowsEdges::fullAlarms, x -> x.alarm(3, false));
        refuses(s + "alarm", UNKNOWN, AlertRowsEdges::fullAlarms, x -> x.alarm(-1, true));
        refuses(s + "answer", UNKNOWN, AlertRowsEdges::fullAlarms, x -> x.answer(60, 2, 0));
        refuses(s + "answer", UNKNOWN, AlertRowsEdges::fullAlarms, x -> x.answer(59, 3, 0));
    }

    // .. outside of a range IndexOutOfBoundsException, not in this state ..; the first of these
    private static void rangeAheadOfStateAndRoom() {
        String s = "Terms: range ahead of state and room, ";
        refuses(s + "group, persons", RANGE, AlertRowsEdges::fullGroups, x -> x.group(0, 5));
        refuses(s + "group, persons", RANGE, AlertRowsEdges::fullGroups, x -> x.group(21, 5));
        refuses(s + "group, time", RANGE, AlertRowsEdges::fullGroups, x -> x.group(1, 0));
        refuses(s + "group, time", RANGE, AlertRowsEdges::fullGroups, x -> x.group(1, 3601));
        refuses(s + "answer, not asked", RANGE, AlertRowsEdges::busy, x -> x.answer(2, 3, 121));
        refuses(s + "answer, not asked", RANGE, AlertRowsEdges::busy, x -> x.answer(2, 3, -2));
        refuses(s + "answer, not reached", RANGE, AlertRowsEdges::busy, x -> x.answer(2, 2, 121));
        refuses(s + "answer, not reached", RANGE, AlertRowsEdges::busy, x -> x.answer(2, 2, -2));
    }

    // .. not in this state IllegalStateException, no room UnsupportedOperationException; the first of these
    private static void stateAheadOfRoom() {
        String s = "Terms: state ahead of room, ";
        refuses(s + "nobody is there", STATE, AlertRowsEdges::fullAlarms, x -> x.alarm(2, false));
        refuses(s + "nobody is there", STATE, AlertRowsEdges::fullAlarms, x -> x.alarm(2, true));
        Supplier<Rows> resting = () -> {
            Rows x = fullAlarms();
            x.is(2, 1);
            return x;
        };
        refuses(s + "who is there rests", STATE, resting, x -> x.alarm(1, false));
        refuses("Terms: a test would ask who rests, but no room", ROOM, resting, x -> x.alarm(1, true));
    }

    // .. then, where it is told, ArithmeticException
    private static void unknownAheadOfArithmetic() {
        String s = "Terms: unknown ahead of arithmetic";
        refuses(s + ", none of both", ARITHMETIC, AlertRowsEdges::busy, x -> x.share(2, 0));
        refuses(s + ", none of both", ARITHMETIC, AlertRowsEdges::busy, x -> x.share(2, 1));
        bounds(s + ", what", UNKNOWN, AlertRowsEdges::busy, 0, 1, (x, n) -> x.share(0, n));
        for (int what : new int[] {-1, 2, MIN, MAX}) {
            refuses(s + ", what", UNKNOWN, AlertRowsEdges::busy, x -> x.share(2, what));
            refuses(s + ", both", UNKNOWN, AlertRowsEdges::busy, x -> x.share(3, what));
        }
    }

    // Promise 1: No groups.
    private static void aNewObject() {
        for (int number : new int[] {0, -1, 1, MIN, MAX}) {
            String s = "1: no groups, number " + number;
            Supplier<Rows> empty = Rows::new;
            refuses(s + ", next", UNKNOWN, empty, x -> x.next(number, -1));
            refuses(s + ", person", UNKNOWN, empty, x -> x.person(number));
            refuses(s + ", way", UNKNOWN, empty, x -> x.way(number, 0, true));
            refuses(s + ", is", UNKNOWN, empty, x -> x.is(number, 0));
            refuses(s + ", alarm", UNKNOWN, empty, x -> x.alarm(number, false));
            refuses(s + ", answer", UNKNOWN, empty, x -> x.answer(number, 0, 0));
            refuses(s + ", alarmAt", UNKNOWN, empty, x -> x.alarmAt(number, 0));
            refuses(s + ", comes", UNKNOWN, empty, x -> x.comes(number, 0));
            refuses(s + ", reached", UNKNOWN, empty, x -> x.reached(number, 0));
            refuses(s + ", share", UNKNOWN, empty, x -> x.share(number, 0));
        }
        due("1: nobody never answers", -1, new Rows(), x -> x.never(0));
        for (int what = 0; what < 5; what++) {
            int w = what;
            due("1: count " + w, 0, new Rows(), x -> x.count(w));
        }
        due("1: the longest tick", 0, new Rows(), x -> x.tick(5000));
    }

    // Promise 2: One more group, without a next one: its number.
    private static void groupNumbers() {
        due("2: the first number", 0, new Rows(), x -> x.group(1, 1));
        due("2: the next number", 3, busy(), x -> x.group(20, 3600));
        refuses("2: both are wrong", RANGE, AlertRowsEdges::busy, x -> x.group(0, 0));
        refuses("2: both are wrong", RANGE, AlertRowsEdges::busy, x -> x.group(21, 3601));
        Rows x = new Rows();
        x.group(1, 1);
        x.group(1, 1);
        x.persons(0, 1);
        x.persons(1, 1);
        x.alarm(0, false);
        due("2: without a next one", 0, x, y -> y.tick(1));
    }

    // Promise 3: A group's next one (-1: none). IllegalArgumentException: no such groups
    private static void nextNoneAndUnknown() {
        bounds("3: no such group", UNKNOWN, AlertRowsEdges::busy, 0, 2, (x, n) -> x.next(n, -1));
        bounds("3: no such group of 12", UNKNOWN, AlertRowsEdges::fullGroups, 0, 11, (x, n) -> x.next(n, -1));
        for (int next : new int[] {-2, 3, 12, MIN, MAX}) {
            refuses("3: no such next group " + next, UNKNOWN, AlertRowsEdges::busy, x -> x.next(0, next));
        }
        refuses("3: no such next group of 12", UNKNOWN, AlertRowsEdges::fullGroups, x -> x.next(0, 12));
        refuses("3: no such next group behind the last", UNKNOWN, AlertRowsEdges::fullGroups, x -> x.next(11, 12));
        for (int next = -1; next <= 2; next++) {
            if (next == 0) {
                continue;
            }
            Rows x = new Rows();
            for (int group = 0; group < 3; group++) {
                x.group(1, 10);
                x.persons(group, 1);
            }
            x.next(0, 3 - Math.abs(next));
            int to = next;
            due("3: another next one", 0, x, y -> y.next(0, to));
            x.alarm(0, false);
            due("3: -1 is none", next < 0 ? 0 : 1, x, y -> y.tick(10));
            check("3: it takes the place", next < 0 ? UNKNOWN.getName() : "0",
                answerOf(x, y -> y.reached(1, to)));
        }
    }

    // Promise 4: One more person, without ways: the number. IllegalArgumentException: no such group
    private static void personNumbers() {
        bounds("4: no such group", UNKNOWN, AlertRowsEdges::busy, 0, 2, (x, n) -> x.person(n));
        bounds("4: no such group of 12", UNKNOWN, AlertRowsEdges::fullGroups, 0, 11, (x, n) -> x.person(n));
        due("4: the number", 6, busy(), x -> x.person(0));
        Rows x = busy();
        x.person(0);
        due("4: an open alarm does not ask a new one", -1, x, y -> y.reached(2, 6));
        due("4: an open alarm does not ask a new one", 3, x, at(2, 1));
        x.alarm(0, false);
        due("4: is neither off nor resting", 4, x, at(5, 1));
        due("4: without ways", 1, x, y -> y.way(6, 2, true));
    }

    // Promise 5: IllegalArgumentException: no such person
    private static void wayNumbers() {
        bounds("5: no such person", UNKNOWN, AlertRowsEdges::busy, 0, 5, (x, n) -> x.way(n, 0, true));
        bounds("5: no such person of 60", UNKNOWN, AlertRowsEdges::fullPersons, 0, 59, (x, n) -> x.way(n, 2, false));
        Rows x = fullPersons();
        due("5: one that the person has", 2, x, y -> y.way(59, 2, true));
        x.alarm(1, false);
        due("5: whether it works", 2, x, y -> y.reached(0, 59));
        due("5: one more behind", 3, x, y -> y.way(59, 0, true));
        x.way(59, 2, false);
        x.way(59, 1, false);
        x.alarm(1, false);
        due("5: behind the others", 400, x, y -> y.reached(1, 59));
    }

    // Promise 6: IllegalArgumentException: no such person
    private static void isNumbers() {
        bounds("6: no such person", UNKNOWN, AlertRowsEdges::busy, 0, 5, (x, n) -> x.is(n, 2));
        bounds("6: no such person of 60", UNKNOWN, AlertRowsEdges::fullPersons, 0, 59, (x, n) -> x.is(n, 1));
        for (int from = 0; from < 3; from++) {
            for (int to = 0; to < 3; to++) {
                Rows x = new Rows();
                x.group(1, 10);
                x.persons(0, 1);
                x.is(0, from);
                x.is(0, to);
                int what = to;
                check("6: from " + from + " to " + to, to == 0 ? "0" : STATE.getName(),
                    answerOf(x, y -> y.alarm(0, false)));
                check("6: from " + from + " to " + to + ", a test", what == 2 ? STATE.getName() : "" + (1 - what),
                    answerOf(x, y -> y.alarm(0, true)));
            }
        }
    }

    // Promise 7: IllegalArgumentException: no such group; IllegalStateException: nobody would be asked
    private static void alarmNumbers() {
        for (int group : new int[] {-1, 3, MIN, MAX}) {
            refuses("7: no such group " + group, UNKNOWN, AlertRowsEdges::busy, x -> x.alarm(group, false));
            refuses("7: no such group " + group, UNKNOWN, AlertRowsEdges::busy, x -> x.alarm(group, true));
        }
        bounds("7: no such group of 12", UNKNOWN, AlertRowsEdges::fullGroups, 0, 11,
            (x, n) -> x.alarm(n, false));
        due("7: the number", 5, busy(), x -> x.alarm(0, false));
        refuses("7: all are off", STATE, AlertRowsEdges::busy, x -> x.alarm(2, false));
        refuses("7: all are off, a test", STATE, AlertRowsEdges::busy, x -> x.alarm(2, true));
        refuses("7: no persons", STATE, AlertRowsEdges::fullGroups, x -> x.alarm(1, false));
        Supplier<Rows> resting = () -> {
            Rows x = busy();
            x.is(5, 1);
            return x;
        };
        refuses("7: all rest", STATE, resting, x -> x.alarm(2, false));
        due("7: all rest, a test", 5, resting.get(), x -> x.alarm(2, true));
        Rows x = busy();
        x.is(3, 2);
        x.is(4, 0);
        due("7: the last of a group", 5, x, y -> y.alarm(1, false));
        due("7: the last of a group", 1, x, at(5, 1));
    }

    // Promise 8: no such alarm or person; the alarm did not ask this person, or the person was not reached by it
    private static void answerNumbers() {
        Supplier<Rows> busy = AlertRowsEdges::busy;
        bounds("8: no such alarm", UNKNOWN, busy, 0, 4, (x, n) -> x.answer(n, n == 0 ? 0 : 3, 5));
        for (int person : new int[] {-1, 6, MIN, MAX}) {
            refuses("8: no such person " + person, UNKNOWN, busy, x -> x.answer(2, person, 5));
        }
        refuses("8: not asked, of another group", STATE, busy, x -> x.answer(2, 3, 0));
        refuses("8: not asked, resting", STATE, busy, x -> x.answer(3, 4, 0));
        refuses("8: not asked, off", STATE, busy, x -> x.answer(2, 5, -1));
        refuses("8: not asked, closed", STATE, busy, x -> x.answer(0, 3, 120));
        refuses("8: not reached, open", STATE, busy, x -> x.answer(2, 2, 0));
        refuses("8: not reached, closed", STATE, busy, x -> x.answer(0, 2, 0));
        refuses("8: not asked, though an open one did", STATE, busy, x -> x.answer(0, 3, 0));
        due("8: in time", 1, busy.get(), x -> x.answer(4, 3, 1));
        due("8: late and in time for another alarm", 2, busy.get(), x -> x.answer(3, 3, 1));
        due("8: late, the newest is ahead of its reaching", 3, busy.get(), x -> x.answer(0, 1, 1));
        due("8: too early", 4, busy.get(), x -> x.answer(2, 1, 1));
        refuses("8: the last of 60 alarms and one more", UNKNOWN, AlertRowsEdges::fullAlarms,
            x -> x.answer(60, 0, 0));
        due("8: the last of 60 alarms", 1, fullAlarms(), x -> x.answer(59, 0, 0));
    }

    // Promise 9: Time goes on (1 .. 5,000 seconds)
    private static void tick1To5000() {
        bounds("9: seconds", RANGE, AlertRowsEdges::busy, 1, 5000, (x, n) -> x.tick(n));
        bounds("9: seconds of a new object", RANGE, Rows::new, 1, 5000, (x, n) -> x.tick(n));
        bounds("9: seconds, with 60 alarms", RANGE, AlertRowsEdges::fullAlarms, 1, 5000, (x, n) -> x.tick(n));
        for (int seconds : new int[] {1, 4999, 5000}) {
            Rows x = busy();
            allows("9: goes on", x, y -> y.tick(seconds));
            due("9: goes on by " + seconds, 40 + seconds, x, y -> y.count(0));
        }
        Rows x = fullAlarms();
        due("9: all of 60 close, without room for a second one", 0, x, y -> y.tick(3600));
        due("9: all of 60 close", 0, x, y -> y.count(1));
        due("9: the last of 60", 2, x, at(59, 0));
    }

    // Promise 9: alarms by numbers close in each
    private static void alarmsCloseByNumbersInEachSecond() {
        String s = "9: by numbers in each second";
        Rows x = new Rows();
        x.group(1, 30);
        x.group(1, 20);
        x.group(1, 10);
        for (int group = 0; group < 3; group++) {
            x.persons(group, 1);
        }
        x.next(0, 2);
        x.next(1, 2);
        x.alarm(0, false);
        x.tick(10);
        x.alarm(1, false);
        due(s, 2, x, y -> y.tick(20));
        due(s + ", the same second", 0, x, at(2, 5));
        due(s + ", the same second", 1, x, at(3, 5));
        x.tick(10);
        x.alarm(0, false);
        x.tick(9);
        x.alarm(1, false);
        due(s, 2, x, y -> y.tick(21));
        due(s + ", a second earlier goes first", 5, x, at(6, 5));
        due(s + ", a second earlier goes first", 69, x, at(6, 6));
        due(s + ", then the lower number", 4, x, at(7, 5));
        due(s + ", then the lower number", 70, x, at(7, 6));
    }

    // Promise 9: how many second alarms there were
    private static void tickTellsItsOwnSecondAlarms() {
        Rows x = new Rows();
        for (int group = 0; group < 12; group++) {
            x.group(1, 1);
            x.persons(group, 1);
        }
        for (int group = 0; group < 11; group++) {
            x.next(group, group + 1);
        }
        x.alarm(0, false);
        for (int second = 1; second <= 12; second++) {
            due("9: one in each second", second <= 11 ? 1 : 0, x, y -> y.tick(1));
        }
        x.alarm(0, false);
        due("9: eleven in one tick", 11, x, y -> y.tick(12));
        due("9: all", 22, x, y -> y.count(4));
        x.alarm(0, false);
        due("9: a second ahead of the last closing", 11, x, y -> y.tick(11));
        due("9: one is open", 1, x, y -> y.count(1));
        due("9: none of this tick", 0, x, y -> y.tick(1));
        due("9: none is open", 0, x, y -> y.count(1));
    }

    // Promise 10: IllegalArgumentException: no such alarm or what
    private static void alarmAtWhats() {
        bounds("10: what", UNKNOWN, AlertRowsEdges::busy, 0, 6, (x, n) -> x.alarmAt(2, n));
        bounds("10: no such alarm", UNKNOWN, AlertRowsEdges::busy, 0, 4, (x, n) -> x.alarmAt(n, 0));
        bounds("10: no such alarm of 60", UNKNOWN, AlertRowsEdges::fullAlarms, 0, 59, (x, n) -> x.alarmAt(n, 6));
        refuses("10: neither", UNKNOWN, AlertRowsEdges::busy, x -> x.alarmAt(5, 7));
        int[][] all = {{1, 3, 2, 2, 2, -1, 0}, {2, 2, 2, 0, 0, -1, 20}, {0, 3, 2, 1, 1, -1, 30},
            {2, 1, 1, 0, 0, -1, 30}, {0, 1, 1, 1, 1, -1, 40}};
        Rows x = busy();
        for (int alarm = 0; alarm < all.length; alarm++) {
            for (int what = 0; what < 7; what++) {
                due("10: alarm " + alarm + ", what " + what, all[alarm][what], x, at(alarm, what));
            }
        }
    }

    // Promise 11: those of fewer minutes first, of the same by numbers; -1 when there are not so many
    private static void comesInOrder() {
        bounds("11: no such alarm", UNKNOWN, AlertRowsEdges::busy, 0, 4, (x, n) -> x.comes(n, 0));
        for (int i : new int[] {-1, -2, MIN, MIN + 1}) {
            refuses("11: i is below 0", RANGE, AlertRowsEdges::busy, x -> x.comes(0, i));
        }
        int[] busyOnes = {5, 1007, -1};
        for (int i = 0; i < 3; i++) {
            int n = i;
            due("11: i " + n, busyOnes[n], busy(), x -> x.comes(0, n));
        }
        due("11: the greatest i", -1, busy(), x -> x.comes(0, MAX));
        due("11: nobody comes", -1, busy(), x -> x.comes(1, 0));
        Rows x = new Rows();
        x.group(1, 10);
        x.persons(0, 60);
        x.alarm(0, false);
        for (int person = 0; person < 60; person++) {
            x.answer(0, person, person < 30 ? 120 : 0);
        }
        for (int i = 0; i < 60; i++) {
            int n = i;
            int want = i < 30 ? 1000 * (30 + i) : 1000 * (i - 30) + 120;
            due("11: of the same minutes by numbers", want, x, y -> y.comes(0, n));
        }
        due("11: behind all 60", -1, x, y -> y.comes(0, 60));
    }

    // Promise 12: -1 by none, or not asked; IllegalArgumentException: no such alarm or person
    private static void reachedNumbers() {
        bounds("12: no such alarm", UNKNOWN, AlertRowsEdges::busy, 0, 4, (x, n) -> x.reached(n, 0));
        bounds("12: no such person", UNKNOWN, AlertRowsEdges::busy, 0, 5, (x, n) -> x.reached(2, n));
        bounds("12: no such alarm of 60", UNKNOWN, AlertRowsEdges::fullAlarms, 0, 59, (x, n) -> x.reached(n, 0));
        refuses("12: neither", UNKNOWN, AlertRowsEdges::busy, x -> x.reached(5, 6));
        int[] first = {0, 201, -1, -1, -1, -1};
        int[] test = {-1, -1, -1, 0, 402, -1};
        for (int person = 0; person < 6; person++) {
            int p = person;
            due("12: alarm 0, person " + p, first[p], busy(), x -> x.reached(0, p));
            due("12: alarm 1, person " + p, test[p], busy(), x -> x.reached(1, p));
        }
    }

    // Promise 13: in lowest terms; IllegalArgumentException: no such group; ArithmeticException: nobody was asked
    private static void shareInLowestTerms() {
        for (int group : new int[] {-1, 3, MIN, MAX}) {
            refuses("13: no such group " + group, UNKNOWN, AlertRowsEdges::busy, x -> x.share(group, 0));
            refuses("13: no such group " + group, UNKNOWN, AlertRowsEdges::busy, x -> x.share(group, 1));
        }
        int[][] cases = {{60, 0, 0, 1}, {60, 60, 1, 1}, {60, 1, 1, 60}, {60, 59, 59, 60}, {60, 45, 3, 4},
            {1, 0, 0, 1}, {1, 1, 1, 1}, {7, 3, 3, 7}};
        for (int[] one : cases) {
            Rows x = new Rows();
            x.group(1, 10);
            x.persons(0, one[0]);
            x.alarm(0, false);
            for (int person = 0; person < one[1]; person++) {
                x.answer(0, person, -1);
            }
            x.tick(10);
            due("13: " + one[1] + " of " + one[0] + ", upper", one[2], x, y -> y.share(0, 0));
            due("13: " + one[1] + " of " + one[0] + ", lower", one[3], x, y -> y.share(0, 1));
        }
        Rows x = new Rows();
        x.group(1, 10);
        x.persons(0, 60);
        for (int alarm = 0; alarm < 60; alarm++) {
            x.alarm(0, alarm % 2 == 0);
        }
        x.answer(59, 59, 0);
        x.tick(10);
        due("13: one of all that there may be", 1, x, y -> y.share(0, 0));
        due("13: one of all that there may be", 3600, x, y -> y.share(0, 1));
        Rows unreached = new Rows();
        unreached.group(1, 10);
        unreached.person(0);
        unreached.alarm(0, false);
        unreached.tick(10);
        due("13: who was asked and not reached counts", 0, unreached, y -> y.share(0, 0));
        due("13: who was asked and not reached counts", 1, unreached, y -> y.share(0, 1));
    }

    // Promise 14: by numbers; -1 when there are not so many; IndexOutOfBoundsException: i is below 0
    private static void neverByNumbers() {
        for (int i : new int[] {-1, -2, MIN, MIN + 1}) {
            refuses("14: i is below 0", RANGE, AlertRowsEdges::busy, x -> x.never(i));
            refuses("14: i is below 0", RANGE, Rows::new, x -> x.never(i));
        }
        due("14: nobody yet", -1, busy(), x -> x.never(0));
        due("14: nobody yet, the greatest i", -1, busy(), x -> x.never(MAX));
        Rows x = new Rows();
        x.group(1, 10);
        x.persons(0, 60);
        for (int alarm = 0; alarm < 3; alarm++) {
            x.alarm(0, false);
        }
        x.answer(1, 1, -1);
        x.answer(2, 58, 120);
        x.tick(10);
        for (int i = 0; i < 58; i++) {
            int n = i;
            due("14: by numbers", i == 0 ? 0 : i == 57 ? 59 : i + 1, x, y -> y.never(n));
        }
        due("14: not so many", -1, x, y -> y.never(58));
        due("14: not so many", -1, x, y -> y.never(MAX));
    }

    // Promise 15: IllegalArgumentException: no such what
    private static void countWhats() {
        bounds("15: what", UNKNOWN, AlertRowsEdges::busy, 0, 4, (x, n) -> x.count(n));
        bounds("15: what of a new object", UNKNOWN, Rows::new, 0, 4, (x, n) -> x.count(n));
        int[] all = {40, 2, 2, 1, 0};
        for (int what = 0; what < 5; what++) {
            int w = what;
            due("15: what " + w, all[w], busy(), x -> x.count(w));
        }
        Rows x = fullAlarms();
        due("15: 60 open alarms", 60, x, y -> y.count(1));
    }

    // An object is used for at most 512 calls after it has been made
    private static void theLast512thCall() {
        Rows x = new Rows();
        x.group(20, 3600);
        x.persons(0, 60);
        for (int alarm = 0; alarm < 60; alarm++) {
            x.alarm(0, false);
        }
        x.tick(1);
        while (x.calls < MOST_CALLS - 2) {
            int number = x.calls;
            due("512 calls: an answer", 1, x, y -> y.answer(59 - number % 2, number % 60, number % 122 - 1));
        }
        due("512 calls: the last but one", 0, x, y -> y.tick(3599));
        due("512 calls: the last", 1, x, at(59, 0));
        check("512 calls", MOST_CALLS, x.calls);
    }
}
