import java.util.ArrayList;
import java.util.List;

/** An object as some calls leave it, made anew for each few questions. */
final class Scene {
    interface Act {
        Object on(Voidrent x);
    }

    interface Making {
        void tell(Voidrent x);
    }

    interface NumberedAct {
        Object on(Voidrent x, int number);
    }

    static final int LEAST = Integer.MIN_VALUE;
    static final int MOST = Integer.MAX_VALUE;
    static final int[] NO_UNIT = {-1, 6, LEAST, MOST};
    static final int[] NO_DAY = {-1, 7200, LEAST, MOST};
    /** The last two of these, times 30 or 360, wrap around to numbers of early days. */
    static final int[] NO_MONTH = {-1, 240, LEAST, MOST, 143165577, -143165576};
    static final int[] NO_YEAR = {-1, 20, LEAST, MOST, 11930465, -11930464};

    /** No object is asked for more than its 512 calls: what a scene tells, an act, and these. */
    private static final int QUESTIONS_OF_ONE = 400;

    static final Scene EMPTY = new Scene(new int[0], x -> { });

    /** Three leases of two units: 0 with all that can be told, 1 right behind it, 2 to the last day. */
    static final Scene SOME = new Scene(new int[] {10, 200, 7100}, Scene::tellSome);

    /** All 24 leases: i of unit i % 6, from day 10 * i on, ten days each; the last has all 6 steps. */
    static final Scene FULL = new Scene(firstDaysOfFull(), Scene::tellFull);

    private final int[] firstDays;
    private final Making making;
    private Questions questions = null;
    private List<Object> answers = null;

    /** The first days of its leases, from lease 0 on, and the calls that make it. */
    Scene(int[] firstDays, Making making) {
        this.firstDays = firstDays;
        this.making = making;
    }

    private static void tellSome(Voidrent x) {
        x.setArea(0, 100);
        x.setArea(1, 300);
        x.setIndex(0, 90);
        x.setIndex(4, 120);
        x.setIndex(239, 130);
        x.setCost(0, 7200);
        x.setCost(1, 999);
        x.setCost(19, 5000);
        x.let(0, 10, 200, 900);
        x.let(0, 200, 400, 500);
        x.let(1, 7100, 7200, 777);
        x.step(0, 50, 1000);
        x.step(0, 150, 800);
        x.setTerms(0, 15, 60);
        x.setTerms(2, 0, 30);
        x.setService(0, 500, 10);
        x.setService(1, Voidrent.NONE, 20);
        x.topUp(0, 60, 2);
    }

    private static int[] firstDaysOfFull() {
        int[] days = new int[24];
        for (int lease = 0; lease < 24; lease++) {
            days[lease] = 10 * lease;
        }
        return days;
    }

    private static void tellFull(Voidrent x) {
        for (int unit = 0; unit < 6; unit++) {
            x.setArea(unit, 10 + unit);
        }
        x.setCost(0, 100000);
        int[] firstDays = firstDaysOfFull();
        for (int lease = 0; lease < 24; lease++) {
            x.let(lease % 6, firstDays[lease], firstDays[lease] + 10, 100 + lease);
        }
        for (int step = 1; step <= 6; step++) {
            x.step(23, 230 + step, 200 + step);
        }
        x.topUp(0, 0, 1);
        x.topUp(23, 236, 6);
    }

    Voidrent make() {
        Voidrent x = new Voidrent();
        making.tell(x);
        return x;
    }

    /** The call throws what is due, and all that is asked behind it is answered as without it. */
    void refuses(String what, Class<?> due, Act act) {
        Check.throwing(what, due, () -> act.on(make()));
        changesNothing(what, act);
    }

    void refusesEach(String what, Class<?> due, int[] numbers, NumberedAct act) {
        for (int number : numbers) {
            refuses(String.format(what, number), due, x -> act.on(x, number));
        }
    }

    /** Numbers that no lease has: without leases, with three of them, and with all 24. */
    static void refuseNoLease(String what, NumberedAct act) {
        EMPTY.refusesEach(what, Check.PLACE, new int[] {0, -1, 23, 24, LEAST, MOST}, act);
        SOME.refusesEach(what, Check.PLACE, new int[] {3, -1, 23, 24, LEAST, MOST}, act);
        FULL.refusesEach(what, Check.PLACE, new int[] {24, -1, 25, LEAST, MOST}, act);
    }

    /** The call answers what is due, and all that is asked behind it is answered as without it. */
    void answers(String what, Object due, Act act) {
        Check.due(what, due, Check.answer(() -> act.on(make())));
        changesNothing(what, act);
    }

    private void changesNothing(String what, Act act) {
        if (answers == null) {
            questions = new Questions(firstDays);
            answers = answersBehind(x -> "nothing");
        }
        List<Object> now = answersBehind(act);
        for (int place = 0; place < now.size(); place++) {
            if (!now.get(place).equals(answers.get(place))) {
                Check.due(what + " changes nothing, so " + questions.words(place),
                        answers.get(place), now.get(place));
                return;
            }
        }
        Check.due(what + " changes nothing", answers.size(), now.size());
    }

    private List<Object> answersBehind(Act act) {
        List<Object> given = new ArrayList<>();
        Voidrent x = null;
        for (int place = 0; place < questions.count(); place++) {
            if (place % QUESTIONS_OF_ONE == 0) {
                Voidrent made = make();
                Check.answer(() -> act.on(made));
                x = made;
            }
            given.add(questions.answer(place, x));
        }
        return given;
    }
}
