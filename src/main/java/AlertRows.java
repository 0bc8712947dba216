import java.util.ArrayList;
import java.util.Arrays;

public final class AlertRows {
    private static final int MOST_GROUPS = 12;
    private static final int MOST_PERSONS = 60;
    private static final int MOST_ALARMS = 60;
    private static final int MOST_NEEDED = 20;
    private static final int MOST_ANSWER_TIME = 3600;
    private static final int MOST_TICK = 5000;
    private static final int MOST_MINUTES = 120;
    private static final int LAST_SECOND = 999999;
    private static final int KINDS = 3;
    private static final int SECONDS_OF_A_FAILED_WAY = 20;
    private static final int ALARMS_UNTIL_NEVER = 3;

    private static final int NONE = -1;

    private static final int NEITHER = 0;
    private static final int RESTING = 1;
    private static final int OFF = 2;

    private static final int OPEN = 0;
    private static final int ENOUGH = 1;
    private static final int SHORT = 2;

    private static final int IN_TIME = 1;
    private static final int LATE_FOR_ANOTHER = 2;
    private static final int LATE = 3;
    private static final int TOO_EARLY = 4;

    private static final int NOT_ASKED = -2;
    private static final int NOT_REACHED = -1;
    private static final int NOTHING_SAID = -2;
    private static final int NOT_COMING = -1;

    private final ArrayList<Group> groups;
    private final ArrayList<Person> persons;
    private final ArrayList<Alarm> alarms;
    private int second;
    private int lateAnswers;
    private int earlyAnswers;
    private int secondAlarms;

    public AlertRows() {
        groups = new ArrayList<>();
        persons = new ArrayList<>();
        alarms = new ArrayList<>();
    }

    public int group(int least, int seconds) throws IndexOutOfBoundsException, UnsupportedOperationException {
        if (least < 1 || least > MOST_NEEDED) {
            throw new IndexOutOfBoundsException("a group needs 1 to 20 persons");
        }
        if (seconds < 1 || seconds > MOST_ANSWER_TIME) {
            throw new IndexOutOfBoundsException("a group's time is 1 to 3600 seconds");
        }
        if (groups.size() >= MOST_GROUPS) {
            throw new UnsupportedOperationException("there are 12 groups");
        }
        groups.add(new Group(least, seconds));
        return groups.size() - 1;
    }

    public void next(int group, int next) throws IllegalArgumentException, IllegalStateException {
        Group changed = groupOf(group);
        if (next != NONE) {
            requireGroup(next);
            if (next <= group) {
                throw new IllegalStateException("a next group has a higher number");
            }
        }
        changed.following = next;
    }

    public int person(int group) throws IllegalArgumentException, UnsupportedOperationException {
        requireGroup(group);
        if (persons.size() >= MOST_PERSONS) {
            throw new UnsupportedOperationException("there are 60 persons");
        }
        persons.add(new Person(group));
        return persons.size() - 1;
    }

    public int way(int person, int kind, boolean works) throws IllegalArgumentException, IndexOutOfBoundsException {
        Person changed = personOf(person);
        if (kind < 0 || kind >= KINDS) {
            throw new IndexOutOfBoundsException("a way's kind is 0 to 2");
        }
        changed.setWay(kind, works);
        return changed.ways;
    }

    public void is(int person, int what) throws IllegalArgumentException, IndexOutOfBoundsException {
        Person changed = personOf(person);
        if (what < NEITHER || what > OFF) {
            throw new IndexOutOfBoundsException("a person is 0, 1 or 2");
        }
        changed.state = what;
    }

    public int alarm(int group, boolean test)
            throws IllegalArgumentException, IllegalStateException, UnsupportedOperationException {
        requireGroup(group);
        if (!wouldAskSomebody(group, test)) {
            throw new IllegalStateException("nobody would be asked");
        }
        if (alarms.size() >= MOST_ALARMS) {
            throw new UnsupportedOperationException("there are 60 alarms");
        }
        raise(group, test, NONE);
        return alarms.size() - 1;
    }

    public int answer(int alarm, int person, int minutes)
            throws IllegalArgumentException, IndexOutOfBoundsException, IllegalStateException {
        Alarm answered = alarmOf(alarm);
        requirePerson(person);
        if (minutes < NOT_COMING || minutes > MOST_MINUTES) {
            throw new IndexOutOfBoundsException("minutes are -1 to 120");
        }
        if (!answered.hasReached(person)) {
            throw new IllegalStateException("the alarm did not reach this person");
        }
        if (!answered.hasReachedBy(second, person)) {
            earlyAnswers++;
            return TOO_EARLY;
        }
        if (answered.state == OPEN) {
            answered.note(person, minutes);
            return IN_TIME;
        }
        lateAnswers++;
        return noteLate(person, minutes);
    }

    public int tick(int seconds) throws IndexOutOfBoundsException {
        if (seconds < 1 || seconds > MOST_TICK) {
            throw new IndexOutOfBoundsException("a tick is 1 to 5000 seconds");
        }
        if (seconds > LAST_SECOND - second) {
            throw new IndexOutOfBoundsException("time ends at 999999");
        }
        int until = second + seconds;
        int raisedBefore = secondAlarms;
        // An alarm closes once, so there are no more closings than alarms, those raised on the way among them.
        for (int closings = 0; closings < MOST_ALARMS; closings++) {
            int due = firstDue(until);
            if (due == NONE) {
                break;
            }
            closeAlarm(due);
        }
        second = until;
        return secondAlarms - raisedBefore;
    }

    public int alarmAt(int alarm, int what) throws IllegalArgumentException {
        Alarm seen = alarmOf(alarm);
        switch (what) {
            case 0:
                return seen.state;
            case 1:
                return seen.askedPersons();
            case 2:
                return seen.reachedPersons();
            case 3:
                return seen.answeredPersons();
            case 4:
                return seen.comingPersons();
            case 5:
                return seen.raiser;
            case 6:
                return seen.begin;
            default:
                throw new IllegalArgumentException("what is 0 to 6");
        }
    }

    public int comes(int alarm, int i) throws IllegalArgumentException, IndexOutOfBoundsException {
        Alarm seen = alarmOf(alarm);
        requireNotBelowZero(i);
        return seen.comerAt(i);
    }

    public int reached(int alarm, int person) throws IllegalArgumentException {
        Alarm seen = alarmOf(alarm);
        requirePerson(person);
        return seen.hasReached(person) ? seen.reachOf(person) : NONE;
    }

    public int share(int group, int what) throws IllegalArgumentException, ArithmeticException {
        Group seen = groupOf(group);
        if (what != 0 && what != 1) {
            throw new IllegalArgumentException("what is 0 or 1");
        }
        int divisor = commonDivisor(seen.asked, seen.answered);
        if (divisor < 1) {
            throw new ArithmeticException("nobody was asked by a closed alarm");
        }
        return (what == 0 ? seen.answered : seen.asked) / divisor;
    }

    public int never(int i) throws IndexOutOfBoundsException {
        requireNotBelowZero(i);
        int before = 0;
        for (int person = 0; person < persons.size(); person++) {
            if (persons.get(person).neverAnswers()) {
                if (before == i) {
                    return person;
                }
                before++;
            }
        }
        return NONE;
    }

    public int count(int what) throws IllegalArgumentException {
        switch (what) {
            case 0:
                return second;
            case 1:
                return openAlarms();
            case 2:
                return lateAnswers;
            case 3:
                return earlyAnswers;
            case 4:
                return secondAlarms;
            default:
                throw new IllegalArgumentException("what is 0 to 4");
        }
    }

    private void requireGroup(int number) {
        if (number < 0 || number >= groups.size()) {
            throw new IllegalArgumentException("no such group");
        }
    }

    private void requirePerson(int number) {
        if (number < 0 || number >= persons.size()) {
            throw new IllegalArgumentException("no such person");
        }
    }

    private void requireAlarm(int number) {
        if (number < 0 || number >= alarms.size()) {
            throw new IllegalArgumentException("no such alarm");
        }
    }

    private static void requireNotBelowZero(int i) {
        if (i < 0) {
            throw new IndexOutOfBoundsException("i is below 0");
        }
    }

    private Group groupOf(int number) {
        requireGroup(number);
        return groups.get(number);
    }

    private Person personOf(int number) {
        requirePerson(number);
        return persons.get(number);
    }

    private Alarm alarmOf(int number) {
        requireAlarm(number);
        return alarms.get(number);
    }

    private boolean wouldAskSomebody(int group, boolean test) {
        for (int person = 0; person < persons.size(); person++) {
            if (persons.get(person).wouldBeAsked(group, test)) {
                return true;
            }
        }
        return false;
    }

    private void raise(int group, boolean test, int raiser) {
        Alarm raised = new Alarm(group, test, second, second + groupOf(group).time, raiser);
        for (int person = 0; person < persons.size(); person++) {
            Person one = persons.get(person);
            if (one.wouldBeAsked(group, test)) {
                raised.ask(person, one.reachNow());
            }
        }
        alarms.add(raised);
    }

    /** Only the newest open alarm that asked is looked at: an older one never gets the answer in its stead. */
    private int noteLate(int person, int minutes) {
        for (int number = alarms.size() - 1; number >= 0; number--) {
            Alarm other = alarms.get(number);
            if (other.state == OPEN && other.hasAsked(person)) {
                if (!other.hasReachedBy(second, person)) {
                    return LATE;
                }
                other.note(person, minutes);
                return LATE_FOR_ANOTHER;
            }
        }
        return LATE;
    }

    /** The earliest end first, of the same the lowest number: the order in which walking second by second closes. */
    private int firstDue(int until) {
        int due = NONE;
        int dueEnd = until + 1;
        for (int number = 0; number < alarms.size(); number++) {
            Alarm one = alarms.get(number);
            if (one.state == OPEN && one.end < dueEnd) {
                due = number;
                dueEnd = one.end;
            }
        }
        return due;
    }

    private void closeAlarm(int number) {
        Alarm closing = alarmOf(number);
        Group group = groupOf(closing.crew);
        // A second alarm begins when this one ends, which may lie well before the end of the tick.
        second = closing.end;
        closing.state = closing.comingPersons() >= group.least ? ENOUGH : SHORT;
        addUp(closing, group);
        if (closing.state == SHORT && !closing.test) {
            raiseSecond(group.following, number);
        }
    }

    /** Nothing said after the closing changes an alarm, so its sums can be kept instead of being counted again. */
    private void addUp(Alarm closed, Group group) {
        group.asked += closed.askedPersons();
        group.answered += closed.answeredPersons();
        for (int person = 0; person < persons.size(); person++) {
            if (closed.hasAsked(person)) {
                persons.get(person).addClosed(closed.hasAnswer(person));
            }
        }
    }

    private void raiseSecond(int group, int raiser) {
        if (group == NONE || alarms.size() >= MOST_ALARMS || !wouldAskSomebody(group, false)) {
            return;
        }
        raise(group, false, raiser);
        secondAlarms++;
    }

    private int openAlarms() {
        int open = 0;
        for (int number = 0; number < alarms.size(); number++) {
            if (alarms.get(number).state == OPEN) {
                open++;
            }
        }
        return open;
    }

    /** Euclid takes fewer than 50 steps for any two ints; 0 only when both are 0. */
    private static int commonDivisor(int a, int b) {
        int upper = a;
        int lower = b;
        for (int step = 0; step < 50 && lower != 0; step++) {
            int rest = upper % lower;
            upper = lower;
            lower = rest;
        }
        return upper;
    }

    private static final class Group {
        private final int least;
        private final int time;
        private int following;
        private int asked;
        private int answered;

        Group(int least, int time) {
            this.least = least;
            this.time = time;
            this.following = NONE;
        }
    }

    private static final class Person {
        private final int crew;
        private final int[] kinds;
        private final boolean[] working;
        private int ways;
        private int state;
        private int closedAlarms;
        private int closedAnswers;

        Person(int crew) {
            this.crew = crew;
            this.kinds = new int[KINDS];
            this.working = new boolean[KINDS];
            this.state = NEITHER;
        }

        void setWay(int kind, boolean works) {
            int place = 0;
            while (place < ways && place < KINDS && kinds[place] != kind) {
                place++;
            }
            if (place >= KINDS) {
                return;
            }
            kinds[place] = kind;
            working[place] = works;
            if (place == ways) {
                ways++;
            }
        }

        boolean wouldBeAsked(int group, boolean test) {
            return crew == group && (state == NEITHER || (test && state == RESTING));
        }

        /** 10 times the seconds that failed ways take, and the kind of the first that works. */
        int reachNow() {
            for (int place = 0; place < ways && place < KINDS; place++) {
                if (working[place]) {
                    return 10 * SECONDS_OF_A_FAILED_WAY * place + kinds[place];
                }
            }
            return NOT_REACHED;
        }

        void addClosed(boolean answered) {
            closedAlarms++;
            if (answered) {
                closedAnswers++;
            }
        }

        boolean neverAnswers() {
            return closedAlarms >= ALARMS_UNTIL_NEVER && closedAnswers == 0;
        }
    }

    private static final class Alarm {
        private final int crew;
        private final boolean test;
        private final int begin;
        private final int end;
        private final int raiser;
        private final int[] reach;
        private final int[] said;
        private int state;

        Alarm(int crew, boolean test, int begin, int end, int raiser) {
            this.crew = crew;
            this.test = test;
            this.begin = begin;
            this.end = end;
            this.raiser = raiser;
            this.state = OPEN;
            this.reach = new int[MOST_PERSONS];
            this.said = new int[MOST_PERSONS];
            Arrays.fill(this.reach, NOT_ASKED);
            Arrays.fill(this.said, NOTHING_SAID);
        }

        /** The reach is kept as it is when asked: ways that change later do not change it. */
        void ask(int person, int reachNow) {
            if (person >= 0 && person < reach.length) {
                reach[person] = reachNow;
            }
        }

        void note(int person, int minutes) {
            if (person >= 0 && person < said.length) {
                said[person] = minutes;
            }
        }

        int reachOf(int person) {
            return person >= 0 && person < reach.length ? reach[person] : NOT_ASKED;
        }

        boolean hasAsked(int person) {
            return reachOf(person) != NOT_ASKED;
        }

        boolean hasReached(int person) {
            return reachOf(person) >= 0;
        }

        boolean hasReachedBy(int now, int person) {
            return hasReached(person) && now - begin >= reachOf(person) / 10;
        }

        boolean hasAnswer(int person) {
            return person >= 0 && person < said.length && said[person] != NOTHING_SAID;
        }

        int askedPersons() {
            return countFrom(reach, NOT_REACHED);
        }

        int reachedPersons() {
            return countFrom(reach, 0);
        }

        int answeredPersons() {
            return countFrom(said, NOT_COMING);
        }

        int comingPersons() {
            return countFrom(said, 0);
        }

        int comerAt(int i) {
            for (int person = 0; person < said.length; person++) {
                int minutes = said[person];
                if (minutes >= 0 && comersBefore(person, minutes) == i) {
                    return 1000 * person + minutes;
                }
            }
            return NONE;
        }

        private int comersBefore(int person, int minutes) {
            int before = 0;
            for (int other = 0; other < said.length; other++) {
                int others = said[other];
                if (others >= 0 && (others < minutes || (others == minutes && other < person))) {
                    before++;
                }
            }
            return before;
        }

        private static int countFrom(int[] row, int floor) {
            int found = 0;
            for (int value : row) {
                if (value >= floor) {
                    found++;
                }
            }
            return found;
        }
    }
}
