// Each promise of the document: ordinary inputs, the edges that it names, wrong inputs.
public final class AlertRowsPromises {
    private interface Call {
        int run();
    }

    private interface Deed {
        void run();
    }

    private static final Class<?> UNKNOWN = IllegalArgumentException.class;
    private static final Class<?> RANGE = IndexOutOfBoundsException.class;
    private static final Class<?> STATE = IllegalStateException.class;
    private static final Class<?> ROOM = UnsupportedOperationException.class;
    private static final Class<?> ARITHMETIC = ArithmeticException.class;

    private static int wrong = 0;
    private static int checks = 0;

    private static void due(String what, int want, Call call) {
        checks++;
        String got;
        try {
            got = Integer.toString(call.run());
        } catch (RuntimeException e) {
            got = e.getClass().getName();
        }
        if (!got.equals(Integer.toString(want))) {
            complain(what + " answered " + got + ", due is " + want);
        }
    }

    private static void does(String what, Deed deed) {
        due(what, 0, () -> {
            deed.run();
            return 0;
        });
    }

    private static void refuses(String what, Class<?> want, Call call) {
        checks++;
        try {
            int got = call.run();
            complain(what + " answered " + got + ", due is " + want.getName());
        } catch (RuntimeException e) {
            // The exact class, thrown by the class itself: what the machine or the library throws does not do.
            if (e.getClass() != want) {
                complain(what + " threw " + e.getClass().getName() + ", due is " + want.getName());
            } else if (!e.getStackTrace()[0].getClassName().startsWith("AlertRows")) {
                complain(what + " let " + e.getStackTrace()[0] + " throw");
            }
        }
    }

    private static void refusesDeed(String what, Class<?> want, Deed deed) {
        refuses(what, want, () -> {
            deed.run();
            return 0;
        });
    }

    private static void complain(String text) {
        wrong++;
        System.out.println(text);
    }

    /** One group and persons who are reached at once by a pager. */
    private static AlertRows crew(int least, int seconds, int persons) {
        AlertRows x = new AlertRows();
        addCrew(x, least, seconds, persons);
        return x;
    }

    private static int addCrew(AlertRows x, int least, int seconds, int persons) {
        int group = x.group(least, seconds);
        for (int i = 0; i < persons; i++) {
            x.way(x.person(group), 0, true);
        }
        return group;
    }

    public static void main(String[] args) {
        promise1();
        promise2();
        promise3();
        promise4();
        promise5();
        promise6();
        promise7();
        promise8();
        promise8Late();
        promise8Early();
        promise9();
        promise9Order();
        promise9Chain();
        promise9Room();
        promise9End();
        promise10();
        promise11();
        promise12();
        promise13();
        promise14();
        promise15();
        System.out.println(wrong == 0 ? checks + " answers are as due" : wrong + " answers are not as due");
        if (wrong != 0) {
            System.exit(1);
        }
    }

    private static void promise1() {
        AlertRows x = new AlertRows();
        for (int what = 0; what <= 4; what++) {
            int w = what;
            due("1: count of a new object", 0, () -> x.count(w));
        }
        refuses("1: person", UNKNOWN, () -> x.person(0));
        refuses("1: alarm", UNKNOWN, () -> x.alarm(0, false));
        refusesDeed("1: next", UNKNOWN, () -> x.next(0, -1));
        refuses("1: way", UNKNOWN, () -> x.way(0, 0, true));
        refusesDeed("1: is", UNKNOWN, () -> x.is(0, 0));
        refuses("1: answer", UNKNOWN, () -> x.answer(0, 0, 0));
        refuses("1: alarmAt", UNKNOWN, () -> x.alarmAt(0, 0));
        refuses("1: comes", UNKNOWN, () -> x.comes(0, 0));
        refuses("1: reached", UNKNOWN, () -> x.reached(0, 0));
        refuses("1: share", UNKNOWN, () -> x.share(0, 0));
        due("1: never", -1, () -> x.never(0));
        due("1: tick", 0, () -> x.tick(1));
        due("1: first group", 0, () -> x.group(1, 1));
        AlertRows y = new AlertRows();
        due("1: objects share nothing", 0, () -> y.count(0));
        refuses("1: objects share no groups", UNKNOWN, () -> y.person(0));
    }

    private static void promise2() {
        AlertRows x = new AlertRows();
        int[] low = {0, -1, 21, Integer.MIN_VALUE, Integer.MAX_VALUE};
        for (int least : low) {
            refuses("2: persons " + least, RANGE, () -> x.group(least, 10));
        }
        int[] times = {0, -1, 3601, Integer.MIN_VALUE, Integer.MAX_VALUE};
        for (int time : times) {
            refuses("2: time " + time, RANGE, () -> x.group(1, time));
        }
        due("2: least edge", 0, () -> x.group(1, 1));
        due("2: most edge", 1, () -> x.group(20, 3600));
        for (int i = 2; i < 12; i++) {
            int n = i;
            due("2: number", n, () -> x.group(2, 5));
        }
        refuses("2: the 13th", ROOM, () -> x.group(2, 5));
        refuses("2: range ahead of room", RANGE, () -> x.group(21, 5));
        refuses("2: time ahead of room", RANGE, () -> x.group(2, 3601));
        x.person(0);
        x.alarm(0, false);
        due("2: a new group has no next one", 0, () -> x.tick(1));
    }

    private static void promise3() {
        AlertRows x = new AlertRows();
        addCrew(x, 1, 10, 1);
        addCrew(x, 1, 10, 1);
        addCrew(x, 1, 10, 1);
        refusesDeed("3: next unknown", UNKNOWN, () -> x.next(0, 3));
        refusesDeed("3: next below -1", UNKNOWN, () -> x.next(0, -2));
        refusesDeed("3: group unknown", UNKNOWN, () -> x.next(3, 1));
        refusesDeed("3: group below 0", UNKNOWN, () -> x.next(-1, 1));
        refusesDeed("3: group -1, none", UNKNOWN, () -> x.next(-1, -1));
        refusesDeed("3: both great", UNKNOWN, () -> x.next(Integer.MAX_VALUE, Integer.MIN_VALUE));
        refusesDeed("3: itself", STATE, () -> x.next(1, 1));
        refusesDeed("3: lower", STATE, () -> x.next(2, 0));
        does("3: higher", () -> x.next(0, 2));
        refusesDeed("3: refused again", STATE, () -> x.next(0, 0));
        x.alarm(0, false);
        due("3: the refused one changed nothing", 1, () -> x.tick(10));
        due("3: of group 2", 1, () -> x.alarmAt(1, 1));
        due("3: person 2 asked", 0, () -> x.reached(1, 2));
        x.alarm(0, false);
        does("3: none", () -> x.next(0, -1));
        due("3: the next one at the closing counts", 0, () -> x.tick(10));
        x.alarm(0, false);
        does("3: set while it is open", () -> x.next(0, 1));
        due("3: raised", 1, () -> x.tick(10));
    }

    private static void promise4() {
        AlertRows x = new AlertRows();
        x.group(1, 10);
        x.group(1, 10);
        refuses("4: group", UNKNOWN, () -> x.person(2));
        refuses("4: group below 0", UNKNOWN, () -> x.person(-1));
        for (int i = 0; i < 60; i++) {
            int n = i;
            due("4: number", n, () -> x.person(n % 2));
        }
        refuses("4: the 61st", ROOM, () -> x.person(0));
        refuses("4: unknown ahead of room", UNKNOWN, () -> x.person(2));
        x.alarm(1, false);
        due("4: persons are of their group", 30, () -> x.alarmAt(0, 1));
        due("4: without ways", 0, () -> x.alarmAt(0, 2));
        due("4: last person", -1, () -> x.reached(0, 59));
    }

    private static void promise5() {
        AlertRows x = new AlertRows();
        x.group(1, 10);
        x.person(0);
        refuses("5: person", UNKNOWN, () -> x.way(1, 0, true));
        refuses("5: person below 0", UNKNOWN, () -> x.way(-1, 0, true));
        refuses("5: person ahead of kind", UNKNOWN, () -> x.way(1, 3, true));
        refuses("5: kind", RANGE, () -> x.way(0, 3, true));
        refuses("5: kind below 0", RANGE, () -> x.way(0, -1, true));
        due("5: siren", 1, () -> x.way(0, 2, false));
        due("5: siren again", 1, () -> x.way(0, 2, false));
        due("5: pager", 2, () -> x.way(0, 0, false));
        due("5: call", 3, () -> x.way(0, 1, true));
        refuses("5: kind, with all three", RANGE, () -> x.way(0, 3, true));
        x.alarm(0, false);
        due("5: in their order", 401, () -> x.reached(0, 0));
        due("5: pager works", 3, () -> x.way(0, 0, true));
        x.alarm(0, false);
        due("5: the place is kept", 200, () -> x.reached(1, 0));
        due("5: siren works", 3, () -> x.way(0, 2, true));
        x.alarm(0, false);
        due("5: first way", 2, () -> x.reached(2, 0));
        x.way(0, 0, false);
        x.way(0, 1, false);
        due("5: all fail", 3, () -> x.way(0, 2, false));
        x.alarm(0, false);
        due("5: by none", -1, () -> x.reached(3, 0));
        due("5: as it was when asked", 401, () -> x.reached(0, 0));
    }

    private static void promise6() {
        AlertRows x = crew(1, 10, 3);
        refusesDeed("6: person", UNKNOWN, () -> x.is(3, 0));
        refusesDeed("6: person below 0", UNKNOWN, () -> x.is(-1, 0));
        refusesDeed("6: person ahead of thing", UNKNOWN, () -> x.is(3, 3));
        refusesDeed("6: thing", RANGE, () -> x.is(0, 3));
        refusesDeed("6: thing below 0", RANGE, () -> x.is(0, -1));
        does("6: off", () -> x.is(0, 2));
        does("6: resting", () -> x.is(1, 1));
        x.alarm(0, false);
        due("6: neither is asked", 1, () -> x.alarmAt(0, 1));
        due("6: that is person 2", 0, () -> x.reached(0, 2));
        x.alarm(0, true);
        due("6: a test asks those who rest", 2, () -> x.alarmAt(1, 1));
        due("6: not those off", -1, () -> x.reached(1, 0));
        does("6: neither again", () -> x.is(0, 0));
        does("6: off now", () -> x.is(2, 2));
        x.alarm(0, false);
        due("6: asked again", 0, () -> x.reached(2, 0));
        due("6: who goes off stays asked", 1, () -> x.answer(0, 2, 5));
        refusesDeed("6: refused", RANGE, () -> x.is(0, 4));
        x.alarm(0, false);
        due("6: a refusal changed nothing", 0, () -> x.reached(3, 0));
    }

    private static void promise7() {
        AlertRows x = new AlertRows();
        x.group(1, 3600);
        x.group(1, 3600);
        refuses("7: group", UNKNOWN, () -> x.alarm(2, false));
        refuses("7: group below 0", UNKNOWN, () -> x.alarm(-1, true));
        refuses("7: nobody", STATE, () -> x.alarm(0, false));
        refuses("7: nobody for a test", STATE, () -> x.alarm(0, true));
        x.person(0);
        x.is(0, 1);
        refuses("7: who rests", STATE, () -> x.alarm(0, false));
        due("7: a test", 0, () -> x.alarm(0, true));
        x.is(0, 2);
        refuses("7: who is off", STATE, () -> x.alarm(0, false));
        refuses("7: a test of who is off", STATE, () -> x.alarm(0, true));
        x.is(0, 0);
        x.tick(7);
        for (int i = 1; i < 60; i++) {
            int n = i;
            due("7: number", n, () -> x.alarm(0, n % 2 == 0));
        }
        due("7: begins now", 7, () -> x.alarmAt(59, 6));
        due("7: nobody raised it", -1, () -> x.alarmAt(59, 5));
        refuses("7: the 61st", ROOM, () -> x.alarm(0, false));
        refuses("7: unknown ahead of room", UNKNOWN, () -> x.alarm(2, false));
        refuses("7: nobody ahead of room", STATE, () -> x.alarm(1, false));
        due("7: a person who came later", 1, () -> x.person(0));
        due("7: is not asked", -1, () -> x.reached(59, 1));
        due("7: nor counted", 1, () -> x.alarmAt(59, 1));
        refuses("7: nor answers", STATE, () -> x.answer(59, 1, 0));
    }

    private static void promise8() {
        AlertRows x = crew(1, 30, 2);
        x.person(0);
        x.group(1, 30);
        x.person(1);
        x.alarm(0, false);
        refuses("8: alarm", UNKNOWN, () -> x.answer(1, 0, 0));
        refuses("8: alarm below 0", UNKNOWN, () -> x.answer(-1, 0, 0));
        refuses("8: person", UNKNOWN, () -> x.answer(0, 4, 0));
        refuses("8: person below 0", UNKNOWN, () -> x.answer(0, -1, 0));
        refuses("8: person ahead of minutes", UNKNOWN, () -> x.answer(0, 4, 121));
        refuses("8: minutes", RANGE, () -> x.answer(0, 0, 121));
        refuses("8: minutes below -1", RANGE, () -> x.answer(0, 0, -2));
        refuses("8: minutes ahead of state", RANGE, () -> x.answer(0, 3, 121));
        refuses("8: not asked", STATE, () -> x.answer(0, 3, 0));
        refuses("8: not reached", STATE, () -> x.answer(0, 2, 0));
        due("8: no minutes", 1, () -> x.answer(0, 0, 0));
        due("8: comes", 0, () -> x.comes(0, 0));
        due("8: most minutes", 1, () -> x.answer(0, 0, 120));
        due("8: the later one", 120, () -> x.comes(0, 0));
        due("8: one comes", 1, () -> x.alarmAt(0, 4));
        due("8: not", 1, () -> x.answer(0, 0, -1));
        due("8: does not come", 0, () -> x.alarmAt(0, 4));
        due("8: but answered", 1, () -> x.alarmAt(0, 3));
        due("8: to the last second", 0, () -> x.tick(29));
        due("8: in time", 1, () -> x.answer(0, 1, 3));
        x.tick(1);
        due("8: closed", 3, () -> x.answer(0, 1, -1));
        due("8: late changes nothing", 1003, () -> x.comes(0, 0));
        refuses("8: closed, not reached", STATE, () -> x.answer(0, 2, 0));
        due("8: late ones", 1, () -> x.count(2));
    }

    private static void promise8Late() {
        AlertRows x = crew(1, 10, 2);
        x.alarm(0, false);
        x.tick(10);
        x.alarm(0, false);
        x.tick(5);
        x.alarm(0, false);
        due("8: late and in time", 2, () -> x.answer(0, 0, 9));
        due("8: for the newest", 9, () -> x.comes(2, 0));
        due("8: for that alone", 0, () -> x.alarmAt(1, 3));
        due("8: not the closed one", 0, () -> x.alarmAt(0, 3));
        due("8: late takes the place", 2, () -> x.answer(0, 0, -1));
        due("8: of the earlier one", -1, () -> x.comes(2, 0));
        x.way(0, 0, false);
        x.alarm(0, false);
        due("8: the newest did not reach", 3, () -> x.answer(0, 0, 7));
        due("8: an older one gets nothing", -1, () -> x.comes(2, 0));
        x.way(0, 1, true);
        x.alarm(0, false);
        due("8: the newest has not reached yet", 3, () -> x.answer(0, 0, 7));
        due("8: that is not too early", 0, () -> x.count(3));
        x.is(0, 2);
        x.alarm(0, false);
        due("8: one that did not ask is passed over", 3, () -> x.answer(0, 0, 7));
        due("8: of another person", 2, () -> x.answer(0, 1, 8));
        due("8: for the newest of theirs", 1008, () -> x.comes(5, 0));
        due("8: all late ones count", 6, () -> x.count(2));
    }

    private static void promise8Early() {
        AlertRows x = new AlertRows();
        x.group(1, 5);
        x.person(0);
        x.way(0, 0, false);
        x.way(0, 1, false);
        x.way(0, 2, true);
        x.alarm(0, false);
        due("8: ahead, open", 4, () -> x.answer(0, 0, 1));
        x.tick(5);
        due("8: ahead, closed", 4, () -> x.answer(0, 0, 1));
        x.tick(34);
        due("8: ahead by one", 4, () -> x.answer(0, 0, 1));
        due("8: too early ones", 3, () -> x.count(3));
        due("8: none of them late", 0, () -> x.count(2));
        x.tick(1);
        x.way(0, 0, true);
        x.alarm(0, false);
        due("8: at the reaching", 2, () -> x.answer(0, 0, 1));
        due("8: counts for the open one", 1, () -> x.comes(1, 0));
        due("8: none answered the closed one", 0, () -> x.alarmAt(0, 3));
        AlertRows y = new AlertRows();
        y.group(1, 21);
        y.person(0);
        y.way(0, 2, false);
        y.way(0, 0, true);
        y.alarm(0, false);
        y.tick(19);
        due("8: a second ahead", 4, () -> y.answer(0, 0, 1));
        due("8: nothing said", 0, () -> y.alarmAt(0, 3));
        y.tick(1);
        due("8: in that second", 1, () -> y.answer(0, 0, 1));
    }

    private static void promise9() {
        AlertRows x = crew(2, 10, 3);
        addCrew(x, 1, 10, 1);
        x.next(0, 1);
        int[] bad = {0, -1, 5001, Integer.MIN_VALUE, Integer.MAX_VALUE};
        for (int seconds : bad) {
            refuses("9: seconds " + seconds, RANGE, () -> x.tick(seconds));
        }
        due("9: refused ones do not go on", 0, () -> x.count(0));
        due("9: least", 0, () -> x.tick(1));
        due("9: most", 0, () -> x.tick(5000));
        due("9: goes on", 5001, () -> x.count(0));
        x.alarm(0, false);
        x.answer(0, 0, 4);
        due("9: still open", 0, () -> x.tick(9));
        due("9: open", 0, () -> x.alarmAt(0, 0));
        due("9: one too few", 1, () -> x.tick(1));
        due("9: short", 2, () -> x.alarmAt(0, 0));
        due("9: raised by it", 0, () -> x.alarmAt(1, 5));
        due("9: at once", 5011, () -> x.alarmAt(1, 6));
        x.tick(10);
        x.alarm(0, false);
        x.answer(2, 0, 4);
        x.answer(2, 1, 120);
        due("9: as many as needed", 0, () -> x.tick(10));
        due("9: enough", 1, () -> x.alarmAt(2, 0));
        x.alarm(0, false);
        x.answer(3, 0, 4);
        x.answer(3, 1, 4);
        x.answer(3, 2, 4);
        due("9: more than needed", 0, () -> x.tick(10));
        due("9: enough too", 1, () -> x.alarmAt(3, 0));
        x.alarm(0, true);
        due("9: a short test raises none", 0, () -> x.tick(10));
        due("9: but is short", 2, () -> x.alarmAt(4, 0));
        x.is(3, 1);
        x.alarm(0, false);
        due("9: nobody to ask for a second", 0, () -> x.tick(10));
        due("9: no number taken", 6, () -> x.alarm(0, false));
        x.is(3, 0);
        due("9: a whole tick", 1, () -> x.tick(5000));
        due("9: begun within it", 5061 + 10, () -> x.alarmAt(7, 6));
        due("9: and closed within it", 2, () -> x.alarmAt(7, 0));
    }

    /** Alarms of one second close by numbers, and earlier seconds go first whatever their numbers. */
    private static void promise9Order() {
        AlertRows x = crew(1, 30, 1);
        addCrew(x, 1, 10, 1);
        addCrew(x, 1, 5, 1);
        addCrew(x, 1, 5, 1);
        x.next(0, 2);
        x.next(1, 3);
        x.alarm(0, false);
        x.tick(20);
        x.alarm(1, false);
        due("9: two at the same second", 2, () -> x.tick(10));
        due("9: the lower number first", 0, () -> x.alarmAt(2, 5));
        due("9: then the other", 1, () -> x.alarmAt(3, 5));
        x.tick(5);
        x.alarm(0, false);
        x.alarm(1, false);
        due("9: two in one tick", 2, () -> x.tick(100));
        due("9: the earlier second first", 5, () -> x.alarmAt(6, 5));
        due("9: at its second", 45, () -> x.alarmAt(6, 6));
        due("9: then the later", 4, () -> x.alarmAt(7, 5));
        due("9: at that second", 65, () -> x.alarmAt(7, 6));
        due("9: at the end", 135, () -> x.count(0));
    }

    private static void promise9Chain() {
        AlertRows x = new AlertRows();
        for (int i = 0; i < 12; i++) {
            addCrew(x, 1, 7, 1);
        }
        for (int i = 0; i < 11; i++) {
            x.next(i, i + 1);
        }
        x.alarm(0, false);
        due("9: a second alarm raises one too", 11, () -> x.tick(12 * 7));
        due("9: the last one", 77, () -> x.alarmAt(11, 6));
        due("9: raised by the one ahead", 10, () -> x.alarmAt(11, 5));
        due("9: all closed", 0, () -> x.count(1));
        due("9: all counted", 11, () -> x.count(4));
        x.alarm(0, false);
        due("9: only those of this tick", 1, () -> x.tick(7));
        x.answer(13, 1, 0);
        due("9: enough ends the chain", 0, () -> x.tick(100));
    }

    private static void promise9Room() {
        AlertRows x = crew(1, 10, 1);
        addCrew(x, 1, 10, 1);
        x.next(0, 1);
        for (int i = 0; i < 59; i++) {
            x.alarm(0, false);
        }
        due("9: room for one", 1, () -> x.tick(10));
        due("9: the first raised it", 0, () -> x.alarmAt(59, 5));
        refuses("9: no more", UNKNOWN, () -> x.alarmAt(60, 0));
        due("9: all are closed nevertheless", 1, () -> x.count(1));
        due("9: short without a second one", 2, () -> x.alarmAt(58, 0));
        due("9: the last closes", 0, () -> x.tick(10));
        due("9: none open", 0, () -> x.count(1));
        refuses("9: full", ROOM, () -> x.alarm(1, false));
    }

    private static void promise9End() {
        AlertRows x = crew(1, 10, 1);
        for (int i = 0; i < 199; i++) {
            x.tick(5000);
        }
        due("9: nearly", 995000, () -> x.count(0));
        refuses("9: beyond the end", RANGE, () -> x.tick(5000));
        due("9: not moved", 995000, () -> x.count(0));
        due("9: to the end", 0, () -> x.tick(4999));
        due("9: the end", 999999, () -> x.count(0));
        refuses("9: no further", RANGE, () -> x.tick(1));
        due("9: an alarm at the end", 0, () -> x.alarm(0, false));
        due("9: begins there", 999999, () -> x.alarmAt(0, 6));
        due("9: and is open", 1, () -> x.count(1));
        due("9: and is answered", 1, () -> x.answer(0, 0, 1));
    }

    private static void promise10() {
        AlertRows x = crew(1, 10, 3);
        x.person(0);
        x.person(0);
        x.way(4, 1, false);
        x.way(4, 2, true);
        x.tick(3);
        x.alarm(0, false);
        refuses("10: alarm", UNKNOWN, () -> x.alarmAt(1, 0));
        refuses("10: alarm below 0", UNKNOWN, () -> x.alarmAt(-1, 0));
        refuses("10: what", UNKNOWN, () -> x.alarmAt(0, 7));
        refuses("10: what below 0", UNKNOWN, () -> x.alarmAt(0, -1));
        x.answer(0, 0, 3);
        x.answer(0, 0, 4);
        x.answer(0, 1, -1);
        x.answer(0, 4, 4);
        int[] open = {0, 5, 4, 2, 1, -1, 3};
        for (int what = 0; what < open.length; what++) {
            int w = what;
            due("10: open, what " + w, open[w], () -> x.alarmAt(0, w));
        }
        x.tick(10);
        x.answer(0, 2, 1);
        int[] closed = {1, 5, 4, 2, 1, -1, 3};
        for (int what = 0; what < closed.length; what++) {
            int w = what;
            due("10: closed, what " + w, closed[w], () -> x.alarmAt(0, w));
        }
    }

    private static void promise11() {
        AlertRows x = crew(1, 10, 60);
        x.alarm(0, false);
        refuses("11: alarm", UNKNOWN, () -> x.comes(1, 0));
        refuses("11: alarm below 0", UNKNOWN, () -> x.comes(-1, 0));
        refuses("11: alarm ahead of i", UNKNOWN, () -> x.comes(1, -1));
        refuses("11: i", RANGE, () -> x.comes(0, -1));
        refuses("11: i far below", RANGE, () -> x.comes(0, Integer.MIN_VALUE));
        due("11: nobody", -1, () -> x.comes(0, 0));
        x.answer(0, 59, 0);
        x.answer(0, 0, 120);
        x.answer(0, 7, 12);
        x.answer(0, 3, 12);
        x.answer(0, 5, -1);
        int[] order = {59000, 3012, 7012, 120, -1};
        for (int i = 0; i < order.length; i++) {
            int n = i;
            due("11: i " + n, order[n], () -> x.comes(0, n));
        }
        due("11: i beyond", -1, () -> x.comes(0, Integer.MAX_VALUE));
        x.answer(0, 3, 13);
        x.answer(0, 59, -1);
        due("11: the later answer", 7012, () -> x.comes(0, 0));
        due("11: moved behind", 3013, () -> x.comes(0, 1));
        x.tick(10);
        due("11: of a closed one", 120, () -> x.comes(0, 2));
    }

    private static void promise12() {
        AlertRows x = crew(1, 10, 1);
        x.person(0);
        x.group(1, 10);
        x.way(x.person(1), 0, true);
        x.alarm(0, false);
        refuses("12: alarm", UNKNOWN, () -> x.reached(1, 0));
        refuses("12: alarm below 0", UNKNOWN, () -> x.reached(-1, 0));
        refuses("12: person", UNKNOWN, () -> x.reached(0, 3));
        refuses("12: person below 0", UNKNOWN, () -> x.reached(0, -1));
        due("12: at once", 0, () -> x.reached(0, 0));
        due("12: has no way", -1, () -> x.reached(0, 1));
        due("12: not asked", -1, () -> x.reached(0, 2));
        x.way(0, 0, false);
        x.way(0, 2, true);
        x.way(1, 1, false);
        x.alarm(0, false);
        due("12: the second way", 202, () -> x.reached(1, 0));
        due("12: the only one fails", -1, () -> x.reached(1, 1));
        x.way(0, 2, false);
        x.way(0, 1, true);
        x.tick(10);
        x.alarm(0, false);
        due("12: the third way", 401, () -> x.reached(2, 0));
        due("12: older ones stay", 202, () -> x.reached(1, 0));
    }

    private static void promise13() {
        AlertRows x = crew(1, 10, 6);
        x.group(1, 10);
        refuses("13: group", UNKNOWN, () -> x.share(2, 0));
        refuses("13: group below 0", UNKNOWN, () -> x.share(-1, 0));
        refuses("13: what", UNKNOWN, () -> x.share(0, 2));
        refuses("13: what below 0", UNKNOWN, () -> x.share(0, -1));
        refuses("13: nobody", ARITHMETIC, () -> x.share(0, 0));
        x.alarm(0, true);
        x.answer(0, 0, 1);
        refuses("13: not closed", ARITHMETIC, () -> x.share(0, 1));
        x.answer(0, 1, -1);
        x.answer(0, 1, -1);
        x.tick(10);
        due("13: upper", 1, () -> x.share(0, 0));
        due("13: lower", 3, () -> x.share(0, 1));
        refuses("13: what, with a share", UNKNOWN, () -> x.share(0, 2));
        refuses("13: another group", ARITHMETIC, () -> x.share(1, 0));
        x.answer(0, 2, 1);
        due("13: late ones do not count", 1, () -> x.share(0, 0));
        x.alarm(0, false);
        x.answer(0, 2, 1);
        due("13: open ones do not count", 3, () -> x.share(0, 1));
        x.tick(10);
        due("13: upper of both", 1, () -> x.share(0, 0));
        due("13: lower of both", 4, () -> x.share(0, 1));
        x.alarm(0, false);
        for (int person = 0; person < 5; person++) {
            x.answer(2, person, 1);
        }
        x.tick(10);
        due("13: upper of three", 4, () -> x.share(0, 0));
        due("13: lower of three", 9, () -> x.share(0, 1));
        AlertRows y = crew(1, 1, 7);
        y.alarm(0, false);
        y.tick(1);
        due("13: none answered, upper", 0, () -> y.share(0, 0));
        due("13: none answered, lower", 1, () -> y.share(0, 1));
        y.alarm(0, false);
        y.answer(1, 6, -1);
        y.tick(1);
        due("13: in lowest terms already, upper", 1, () -> y.share(0, 0));
        due("13: in lowest terms already, lower", 14, () -> y.share(0, 1));
    }

    private static void promise14() {
        AlertRows x = crew(1, 10, 4);
        x.person(0);
        refuses("14: i", RANGE, () -> x.never(-1));
        refuses("14: i far below", RANGE, () -> x.never(Integer.MIN_VALUE));
        x.is(3, 2);
        for (int i = 0; i < 2; i++) {
            x.alarm(0, i == 0);
            x.tick(10);
        }
        due("14: asked twice", -1, () -> x.never(0));
        x.alarm(0, false);
        due("14: the third is open", -1, () -> x.never(0));
        x.answer(0, 1, 5);
        x.tick(10);
        due("14: asked three times", 0, () -> x.never(0));
        due("14: without person 1", 2, () -> x.never(1));
        due("14: one who is not reached", 4, () -> x.never(2));
        due("14: not person 3", -1, () -> x.never(3));
        due("14: i beyond", -1, () -> x.never(Integer.MAX_VALUE));
        x.answer(2, 0, 5);
        due("14: late is not in time", 0, () -> x.never(0));
        x.alarm(0, false);
        x.answer(3, 0, -1);
        due("14: an open one does not count", 0, () -> x.never(0));
        x.tick(10);
        due("14: who said not did answer", 2, () -> x.never(0));
        due("14: then person 4", 4, () -> x.never(1));
    }

    private static void promise15() {
        AlertRows x = crew(1, 10, 1);
        addCrew(x, 1, 10, 1);
        x.next(0, 1);
        x.person(0);
        x.way(2, 0, false);
        x.way(2, 1, true);
        refuses("15: what", UNKNOWN, () -> x.count(5));
        refuses("15: what below 0", UNKNOWN, () -> x.count(-1));
        x.alarm(0, false);
        x.alarm(0, true);
        due("15: open", 2, () -> x.count(1));
        x.answer(0, 2, 1);
        due("15: too early", 1, () -> x.count(3));
        x.tick(10);
        due("15: the second", 10, () -> x.count(0));
        due("15: open, with the second one", 1, () -> x.count(1));
        due("15: second alarms", 1, () -> x.count(4));
        x.answer(0, 0, 1);
        due("15: late", 1, () -> x.count(2));
        x.alarm(0, false);
        x.answer(1, 0, 1);
        due("15: late, for another", 2, () -> x.count(2));
        refuses("15: a refused answer", RANGE, () -> x.answer(0, 0, 121));
        due("15: is not late", 2, () -> x.count(2));
        due("15: too early ones stay", 1, () -> x.count(3));
    }
}
