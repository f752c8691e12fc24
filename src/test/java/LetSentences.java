/** The sentences of promises 5 to 7: leases begin, end earlier, and get steps. */
final class LetSentences {
    private static final int NONE = Voidrent.NONE;
    private static final int LEAST = Scene.LEAST;
    private static final int MOST = Scene.MOST;
    private static final int[] NO_RENT = {0, -1, 100000, LEAST, MOST};

    /** Days 100 to 199 of unit 1, for 50. */
    private static final Scene ONE = new Scene(new int[] {100}, x -> x.let(1, 100, 200, 50));

    /** The same with all six steps, on days 110, 120 and so on, for 61, 62 and so on. */
    private static final Scene SIX_STEPS = new Scene(new int[] {100}, x -> {
        x.let(1, 100, 200, 50);
        for (int step = 1; step <= 6; step++) {
            x.step(0, 100 + 10 * step, 60 + step);
        }
    });

    private LetSentences() {
    }

    static void test() {
        Sentence.of(5, "Lets a unit.", LetSentences::letsAUnit);
        Sentence.of(5, "`unit`: 0 to 5", LetSentences::letsUnits0To5);
        Sentence.of(5, "`from`: 0 to 7199: the first day", LetSentences::from0To7199);
        Sentence.of(5, "`to`: from + 1 to 7200: the first day that does not belong to it any more",
                LetSentences::toFromAndOneTo7200);
        Sentence.of(5, "`rent`: 1 to 99999: the agreed rent for a month", LetSentences::rent1To99999);
        Sentence.of(5, "Returns the number of the lease.", LetSentences::returnsTheNumber);
        Sentence.of(5, "Throws `IndexOutOfBoundsException` if there is no such unit",
                LetSentences::letsNoSuchUnit);
        Sentence.of(5, "Throws `IllegalArgumentException` if from, to or rent is out of range",
                LetSentences::letsOutOfRange);
        Sentence.of(5, "Throws `IllegalStateException` if there are 24 leases, or the unit has a lease"
                + " with one of these days", LetSentences::letsNoMore);

        Sentence.of(6, "Ends a lease earlier.", LetSentences::endsEarlier);
        Sentence.of(6, "Its steps stay told, also those of later days.", LetSentences::stepsStayTold);
        Sentence.of(6, "`lease`: its number", LetSentences::endsLeasesByNumber);
        Sentence.of(6, "`to`: the first day that does not belong to it any more: later than its first"
                + " day, and earlier than it was", LetSentences::endsBetween);
        Sentence.of(6, "Returns the day that it was.", LetSentences::returnsTheDayThatItWas);
        Sentence.of(6, "Throws `IndexOutOfBoundsException` if there is no such lease",
                LetSentences::endsNoSuchLease);
        Sentence.of(6, "Throws `IllegalArgumentException` if to is none of these",
                LetSentences::endsOnNoneOfThese);

        Sentence.of(7, "Sets a step of a lease; one that was told for the same day is no more.",
                LetSentences::stepsOfOneDay);
        Sentence.of(7, "`lease`: its number", LetSentences::stepsOfLeasesByNumber);
        Sentence.of(7, "`day`: later than its first day, and one of its days",
                LetSentences::daysOfSteps);
        Sentence.of(7, "`rent`: 1 to 99999", LetSentences::rentsOfSteps);
        Sentence.of(7, "Returns how many steps it has then.", LetSentences::returnsHowManySteps);
        Sentence.of(7, "Throws `IndexOutOfBoundsException` if there is no such lease",
                LetSentences::stepsOfNoSuchLease);
        Sentence.of(7, "Throws `IllegalArgumentException` if day or rent is none of these",
                LetSentences::stepsWithNoneOfThese);
        Sentence.of(7, "Throws `IllegalStateException` if it would have more than 6 steps",
                LetSentences::moreThan6Steps);
    }

    private static void due(String what, Object want, Object got) {
        Check.due(what, want, got);
    }

    private static void letsAUnit() {
        Voidrent x = new Voidrent();
        due("in an empty object", 0, x.let(3, 40, 70, 600));
        due("its first day", 0, x.leaseOn(3, 40));
        due("its last day", 0, x.leaseOn(3, 69));
        due("a unit that isn't let", NONE, x.leaseOn(2, 40));
        due("nothing is held", 0, x.held(0));
        due("nothing is free", 600, x.rentOn(0, 40));
        due("no steps", 1, x.step(0, 50, 7));
    }

    private static void letsUnits0To5() {
        Voidrent x = new Voidrent();
        for (int unit = 0; unit < 6; unit++) {
            due("unit " + unit, unit, x.let(unit, 5, 6, 10 + unit));
        }
        for (int unit = 0; unit < 6; unit++) {
            due("the lease of " + unit, unit, x.leaseOn(unit, 5));
            due("a day of " + unit, 359, x.voids(unit, 0));
        }
        ONE.refuses("let(-1, 5, 6, 7)", Check.PLACE, y -> y.let(-1, 5, 6, 7));
        ONE.refuses("let(6, 5, 6, 7)", Check.PLACE, y -> y.let(6, 5, 6, 7));
    }

    private static void from0To7199() {
        Voidrent x = new Voidrent();
        due("from day 0", 0, x.let(0, 0, 2, 7));
        due("day 0 is the first", 0, x.leaseOn(0, 0));
        due("from day 1", 1, x.let(1, 1, 2, 7));
        due("day 0 is before it", NONE, x.leaseOn(1, 0));
        due("day 1 is the first", 1, x.leaseOn(1, 1));
        due("from day 7199", 2, x.let(2, 7199, 7200, 7));
        due("day 7198 is before it", NONE, x.leaseOn(2, 7198));
        due("day 7199 is the first", 2, x.leaseOn(2, 7199));
        ONE.refuses("let(0, -1, 1, 7)", Check.ARGUMENT, y -> y.let(0, -1, 1, 7));
        ONE.refuses("let(0, 7200, 7201, 7)", Check.ARGUMENT, y -> y.let(0, 7200, 7201, 7));
    }

    private static void toFromAndOneTo7200() {
        Voidrent x = new Voidrent();
        due("one day", 0, x.let(0, 30, 31, 7));
        due("the day", 0, x.leaseOn(0, 30));
        due("the day behind it", NONE, x.leaseOn(0, 31));
        due("to day 7200", 1, x.let(1, 30, 7200, 7));
        due("the last day of all", 1, x.leaseOn(1, 7199));
        due("to day 7199", 2, x.let(2, 7198, 7199, 7));
        due("the last day but one", 2, x.leaseOn(2, 7198));
        due("not the last day", NONE, x.leaseOn(2, 7199));
        due("all days", 3, x.let(3, 0, 7200, 7));
        ONE.refuses("let(0, 30, 30, 7)", Check.ARGUMENT, y -> y.let(0, 30, 30, 7));
        ONE.refuses("let(0, 30, 29, 7)", Check.ARGUMENT, y -> y.let(0, 30, 29, 7));
        ONE.refuses("let(0, 30, 7201, 7)", Check.ARGUMENT, y -> y.let(0, 30, 7201, 7));
        ONE.refuses("let(0, 0, 0, 7)", Check.ARGUMENT, y -> y.let(0, 0, 0, 7));
        ONE.refuses("let(0, 7199, 7199, 7)", Check.ARGUMENT, y -> y.let(0, 7199, 7199, 7));
    }

    private static void rent1To99999() {
        Voidrent x = new Voidrent();
        due("least", 0, x.let(0, 0, 30, 1));
        due("its rent", 1, x.rentOn(0, 0));
        due("a month's bill", 1, x.bill(0, 0));
        due("greatest", 1, x.let(1, 0, 30, 99999));
        due("its rent", 99999, x.rentOn(1, 29));
        due("a month's bill", 99999, x.bill(1, 0));
        ONE.refuses("let(0, 30, 60, 0)", Check.ARGUMENT, y -> y.let(0, 30, 60, 0));
        ONE.refuses("let(0, 30, 60, 100000)", Check.ARGUMENT, y -> y.let(0, 30, 60, 100000));
    }

    private static void returnsTheNumber() {
        Voidrent x = new Voidrent();
        for (int lease = 0; lease < 24; lease++) {
            Check.throwing("no unit", Check.PLACE, () -> x.let(6, 0, 1, 7));
            Check.throwing("no rent", Check.ARGUMENT, () -> x.let(0, 0, 1, 0));
            due("a refused call takes no number", lease, x.let(5 - lease % 6, 40 * lease, 40 * lease + 2, 7));
            due("nor does an end", 40 * lease + 2, x.end(lease, 40 * lease + 1));
            due("it is the lease's number", lease, x.leaseOn(5 - lease % 6, 40 * lease));
        }
    }

    private static void letsNoSuchUnit() {
        Scene.EMPTY.refusesEach("let(%d, 0, 1, 7)", Check.PLACE, Scene.NO_UNIT,
                (x, unit) -> x.let(unit, 0, 1, 7));
        ONE.refusesEach("let(%d, 100, 200, 7)", Check.PLACE, Scene.NO_UNIT,
                (x, unit) -> x.let(unit, 100, 200, 7));
        Scene.FULL.refusesEach("let(%d, 0, 1, 7)", Check.PLACE, Scene.NO_UNIT,
                (x, unit) -> x.let(unit, 0, 1, 7));
    }

    private static void letsOutOfRange() {
        int[] noFrom = {-1, 7200, 7201, LEAST, MOST};
        ONE.refusesEach("let(0, %d, 7200, 7)", Check.ARGUMENT, noFrom,
                (x, from) -> x.let(0, from, 7200, 7));
        ONE.refusesEach("let(0, %d, 1, 7)", Check.ARGUMENT, noFrom, (x, from) -> x.let(0, from, 1, 7));
        ONE.refusesEach("let(0, %d, the day behind, 7)", Check.ARGUMENT, noFrom,
                (x, from) -> x.let(0, from, from + 1, 7));
        int[] noTo = {0, -1, 49, 50, 7201, LEAST, MOST};
        ONE.refusesEach("let(0, 50, %d, 7)", Check.ARGUMENT, noTo, (x, to) -> x.let(0, 50, to, 7));
        ONE.refusesEach("let(0, 50, 60, %d)", Check.ARGUMENT, NO_RENT,
                (x, rent) -> x.let(0, 50, 60, rent));
        Scene.EMPTY.refusesEach("let(0, 0, 7200, %d)", Check.ARGUMENT, NO_RENT,
                (x, rent) -> x.let(0, 0, 7200, rent));
    }

    private static void letsNoMore() {
        due("the 24th", 24, Scene.FULL.make().leases());
        for (int unit = 0; unit < 6; unit++) {
            int u = unit;
            Scene.FULL.refuses("a 25th in " + u, Check.STATE, x -> x.let(u, 1000, 1001, 7));
        }
        int[] firstDays = new int[24];
        for (int lease = 0; lease < 24; lease++) {
            firstDays[lease] = 2 * lease;
        }
        Scene ended = new Scene(firstDays, x -> {
            for (int lease = 0; lease < 24; lease++) {
                x.let(0, 2 * lease, 2 * lease + 2, 7);
                x.end(lease, 2 * lease + 1);
            }
        });
        ended.refuses("a 25th where all have ended", Check.STATE, x -> x.let(0, 1, 2, 7));
        int[][] taken = {{100, 200}, {100, 101}, {199, 200}, {150, 151}, {99, 101}, {0, 101}, {199, 201},
            {199, 7200}, {99, 201}, {0, 7200}, {100, 7200}, {0, 200}, {101, 199}};
        for (int[] days : taken) {
            ONE.refuses("let(1, " + days[0] + ", " + days[1] + ", 7)", Check.STATE,
                    x -> x.let(1, days[0], days[1], 7));
        }
        letsWhatIsFree();
    }

    private static void letsWhatIsFree() {
        Voidrent x = ONE.make();
        due("up to its first day", 1, x.let(1, 0, 100, 7));
        due("from the day behind it on", 2, x.let(1, 200, 7200, 7));
        due("the same days of the unit before", 3, x.let(0, 100, 200, 7));
        due("the same days of the unit behind", 4, x.let(2, 100, 200, 7));
        Check.throwing("between two", Check.STATE, () -> x.let(1, 99, 100, 7));
        due("ends earlier", 200, x.end(0, 190));
        Check.throwing("a day too early", Check.STATE, () -> x.let(1, 189, 200, 7));
        Check.throwing("a day too late", Check.STATE, () -> x.let(1, 190, 201, 7));
        due("just the days that it leaves", 5, x.let(1, 190, 200, 7));
    }

    private static void endsEarlier() {
        Voidrent x = ONE.make();
        x.end(0, 150);
        due("its last day", 0, x.leaseOn(1, 149));
        due("the day behind it", NONE, x.leaseOn(1, 150));
        due("the last day's rent", 50, x.rentOn(0, 149));
        due("no rent behind it", 0, x.rentOn(0, 150));
        due("the days that are void", 310, x.voids(1, 0));
        due("no change but its end", 150, x.nextChange(0, 100));
        due("nor behind it", NONE, x.nextChange(0, 150));
        due("it is a lease still", 1, x.leases());
    }

    private static void stepsStayTold() {
        Voidrent x = SIX_STEPS.make();
        x.end(0, 125);
        due("a step of an earlier day", 61, x.rentOn(0, 119));
        due("another one", 62, x.rentOn(0, 124));
        Check.throwing("six are told still", Check.STATE, () -> x.step(0, 105, 7));
        due("an earlier one can be told anew", 6, x.step(0, 120, 9));
        Voidrent y = ONE.make();
        y.step(0, 160, 70);
        y.end(0, 150);
        due("one of a later day counts", 2, y.step(0, 110, 80));
        y.end(0, 101);
        due("its only day", 50, y.rentOn(0, 100));
    }

    private static void endsLeasesByNumber() {
        Voidrent x = Scene.FULL.make();
        for (int lease = 0; lease < 24; lease++) {
            due("lease " + lease, 10 * lease + 10, x.end(lease, 10 * lease + 1));
        }
        for (int lease = 0; lease < 24; lease++) {
            due("the only day of " + lease, lease, x.leaseOn(lease % 6, 10 * lease));
            due("no day of " + lease, NONE, x.leaseOn(lease % 6, 10 * lease + 1));
        }
        Scene.FULL.refuses("end(24, 235)", Check.PLACE, y -> y.end(24, 235));
        Scene.SOME.refuses("end(3, 7150)", Check.PLACE, y -> y.end(3, 7150));
        Scene.SOME.refuses("end(-1, 150)", Check.PLACE, y -> y.end(-1, 150));
    }

    private static void endsBetween() {
        ONE.refuses("end(0, 200), as it was", Check.ARGUMENT, x -> x.end(0, 200));
        ONE.refuses("end(0, 100), its first day", Check.ARGUMENT, x -> x.end(0, 100));
        Voidrent x = ONE.make();
        due("a day earlier", 200, x.end(0, 199));
        Check.throwing("no longer later", Check.ARGUMENT, () -> x.end(0, 199));
        Voidrent y = ONE.make();
        due("one day is left", 200, y.end(0, 101));
        due("it", 0, y.leaseOn(1, 100));
        due("no other one", NONE, y.leaseOn(1, 101));
        Check.throwing("it can't go", Check.ARGUMENT, () -> y.end(0, 100));
        Check.throwing("nor be told again", Check.ARGUMENT, () -> y.end(0, 101));
        Voidrent z = new Voidrent();
        z.let(0, 0, 7200, 7);
        Check.throwing("as late as can be", Check.ARGUMENT, () -> z.end(0, 7200));
        due("the day before", 7200, z.end(0, 7199));
        Check.throwing("as early as can be", Check.ARGUMENT, () -> z.end(0, 0));
        due("the day behind", 7199, z.end(0, 1));
    }

    private static void returnsTheDayThatItWas() {
        Voidrent x = ONE.make();
        due("as it was let", 200, x.end(0, 180));
        Check.throwing("later again", Check.ARGUMENT, () -> x.end(0, 190));
        due("not the refused one", 180, x.end(0, 150));
        due("as it was told then", 150, x.end(0, 101));
    }

    private static void endsNoSuchLease() {
        Scene.refuseNoLease("end(%d, 11)", (x, lease) -> x.end(lease, 11));
        Scene.refuseNoLease("end(%d, -1)", (x, lease) -> x.end(lease, -1));
        Scene.refuseNoLease("end(%d, 7201)", (x, lease) -> x.end(lease, 7201));
    }

    private static void endsOnNoneOfThese() {
        int[] none = {200, 201, 7200, 7201, 100, 99, 0, -1, LEAST, MOST};
        ONE.refusesEach("end(0, %d)", Check.ARGUMENT, none, (x, to) -> x.end(0, to));
        SIX_STEPS.refusesEach("end(0, %d)", Check.ARGUMENT, none, (x, to) -> x.end(0, to));
        Scene oneDay = new Scene(new int[] {7199}, x -> x.let(4, 7199, 7200, 5));
        oneDay.refusesEach("a lease of one day: end(0, %d)", Check.ARGUMENT,
                new int[] {7198, 7199, 7200, 7201, LEAST, MOST}, (x, to) -> x.end(0, to));
    }

    private static void stepsOfOneDay() {
        Voidrent x = ONE.make();
        due("a step", 1, x.step(0, 120, 80));
        due("its rent", 80, x.rentOn(0, 120));
        due("the same day", 1, x.step(0, 120, 30));
        due("the last told holds, though less", 30, x.rentOn(0, 120));
        due("another day", 2, x.step(0, 121, 90));
        due("the first day again", 2, x.step(0, 120, 85));
        due("its rent", 85, x.rentOn(0, 120));
        due("not the other day's", 90, x.rentOn(0, 121));
        Voidrent y = SIX_STEPS.make();
        for (int step = 1; step <= 6; step++) {
            due("in place of one of six", 6, y.step(0, 100 + 10 * step, 70 + step));
            due("its rent", 70 + step, y.rentOn(0, 100 + 10 * step));
        }
    }

    private static void stepsOfLeasesByNumber() {
        Voidrent x = Scene.FULL.make();
        for (int lease = 0; lease < 23; lease++) {
            due("lease " + lease, 1, x.step(lease, 10 * lease + 5, 500 + lease));
        }
        due("lease 23", 6, x.step(23, 235, 523));
        for (int lease = 0; lease < 24; lease++) {
            due("the rent of " + lease, 500 + lease, x.rentOn(lease, 10 * lease + 5));
        }
        Scene.FULL.refuses("step(24, 235, 7)", Check.PLACE, y -> y.step(24, 235, 7));
        Scene.SOME.refuses("step(3, 7150, 7)", Check.PLACE, y -> y.step(3, 7150, 7));
        Scene.SOME.refuses("step(-1, 150, 7)", Check.PLACE, y -> y.step(-1, 150, 7));
    }

    private static void daysOfSteps() {
        Voidrent x = ONE.make();
        due("its second day", 1, x.step(0, 101, 60));
        due("its last day", 2, x.step(0, 199, 70));
        due("its first day's rent", 50, x.rentOn(0, 100));
        due("its second day's", 60, x.rentOn(0, 101));
        due("its last day's but one", 60, x.rentOn(0, 198));
        due("its last day's", 70, x.rentOn(0, 199));
        due("none behind it", 0, x.rentOn(0, 200));
        ONE.refuses("step(0, 100, 60)", Check.ARGUMENT, y -> y.step(0, 100, 60));
        ONE.refuses("step(0, 200, 60)", Check.ARGUMENT, y -> y.step(0, 200, 60));
        Voidrent z = ONE.make();
        z.end(0, 150);
        Check.throwing("a day that it has no more", Check.ARGUMENT, () -> z.step(0, 150, 60));
        due("the last one that it has", 1, z.step(0, 149, 60));
        Voidrent w = new Voidrent();
        w.let(0, 7198, 7200, 5);
        due("the last of all days", 1, w.step(0, 7199, 6));
        due("its rent", 6, w.rentOn(0, 7199));
    }

    private static void rentsOfSteps() {
        Voidrent x = ONE.make();
        due("least", 1, x.step(0, 110, 1));
        due("its rent", 1, x.rentOn(0, 110));
        due("greatest", 2, x.step(0, 111, 99999));
        due("its rent", 99999, x.rentOn(0, 111));
        ONE.refuses("step(0, 110, 0)", Check.ARGUMENT, y -> y.step(0, 110, 0));
        ONE.refuses("step(0, 110, 100000)", Check.ARGUMENT, y -> y.step(0, 110, 100000));
    }

    private static void returnsHowManySteps() {
        Voidrent x = ONE.make();
        for (int step = 1; step <= 6; step++) {
            due("one more", step, x.step(0, 190 - 10 * step, 60 + step));
            due("told again", step, x.step(0, 190 - 10 * step, 70 + step));
            Check.throwing("refused", Check.ARGUMENT, () -> x.step(0, 105, 0));
        }
        due("the first one again", 6, x.step(0, 180, 5));
        due("in another lease", 1, x.let(0, 100, 200, 9));
        due("its first one", 1, x.step(1, 180, 5));
    }

    private static void stepsOfNoSuchLease() {
        Scene.refuseNoLease("step(%d, 11, 7)", (x, lease) -> x.step(lease, 11, 7));
        Scene.refuseNoLease("step(%d, -1, 7)", (x, lease) -> x.step(lease, -1, 7));
        Scene.refuseNoLease("step(%d, 11, 0)", (x, lease) -> x.step(lease, 11, 0));
    }

    private static void stepsWithNoneOfThese() {
        int[] none = {100, 99, 0, -1, 200, 201, 7199, 7200, LEAST, MOST};
        ONE.refusesEach("step(0, %d, 60)", Check.ARGUMENT, none, (x, day) -> x.step(0, day, 60));
        ONE.refusesEach("step(0, 150, %d)", Check.ARGUMENT, NO_RENT, (x, rent) -> x.step(0, 150, rent));
        SIX_STEPS.refusesEach("six steps: step(0, %d, 60)", Check.ARGUMENT, none,
                (x, day) -> x.step(0, day, 60));
        SIX_STEPS.refusesEach("six steps: step(0, 110, %d)", Check.ARGUMENT, NO_RENT,
                (x, rent) -> x.step(0, 110, rent));
        Scene oneDay = new Scene(new int[] {100}, x -> x.let(1, 100, 101, 50));
        oneDay.refusesEach("a lease of one day: step(0, %d, 60)", Check.ARGUMENT,
                new int[] {99, 100, 101}, (x, day) -> x.step(0, day, 60));
    }

    private static void moreThan6Steps() {
        int[] others = {101, 109, 111, 159, 161, 199};
        SIX_STEPS.refusesEach("step(0, %d, 7)", Check.STATE, others, (x, day) -> x.step(0, day, 7));
        Voidrent x = SIX_STEPS.make();
        Check.throwing("a seventh", Check.STATE, () -> x.step(0, 105, 7));
        due("one of the six", 6, x.step(0, 110, 7));
        Check.throwing("a seventh still", Check.STATE, () -> x.step(0, 105, 7));
        x.end(0, 165);
        Check.throwing("ended", Check.STATE, () -> x.step(0, 164, 7));
        due("in another lease", 1, x.let(1, 165, 200, 9));
        due("its first one", 1, x.step(1, 199, 7));
        due("a sixth where five are told", 6, fiveSteps().step(0, 199, 7));
    }

    private static Voidrent fiveSteps() {
        Voidrent x = ONE.make();
        for (int step = 1; step <= 5; step++) {
            x.step(0, 100 + step, 7);
        }
        return x;
    }
}
