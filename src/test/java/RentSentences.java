/** The sentences of promises 13 to 15 and 19: what is asked of leases, their days and rents. */
final class RentSentences {
    private static final int NONE = Voidrent.NONE;

    /** Days 100 to 199 of unit 1, for 50. */
    private static final Scene ONE = new Scene(new int[] {100}, x -> x.let(1, 100, 200, 50));

    private RentSentences() {
    }

    static void test() {
        Sentence.of(13, "Returns how many leases there are.", RentSentences::howManyLeases);

        Sentence.of(14, "Returns the lease that a unit has on a day.", RentSentences::leaseOfADay);
        Sentence.of(14, "`unit`: 0 to 5", RentSentences::leaseOnUnits0To5);
        Sentence.of(14, "`day`: 0 to 7199", RentSentences::leaseOnDays0To7199);
        Sentence.of(14, "Returns its number; NONE if it has none.", RentSentences::numberOrNone);
        Sentence.of(14, "Throws `IndexOutOfBoundsException` if there is no such unit or day",
                RentSentences::leaseOnNoSuchUnitOrDay);

        Sentence.of(15, "Returns the rent of a lease on a day, for a month.", RentSentences::rentOfADay);
        Sentence.of(15, "`lease`: its number", RentSentences::rentOfLeasesByNumber);
        Sentence.of(15, "`day`: 0 to 7199", RentSentences::rentOnDays0To7199);
        Sentence.of(15, "Returns the rent; 0 on a day that is not one of its days.",
                RentSentences::rentOrNothing);
        Sentence.of(15, "Throws `IndexOutOfBoundsException` if there is no such lease or day",
                RentSentences::rentOnNoSuchLeaseOrDay);

        Sentence.of(19, "Returns the next day behind a day on which the rent of a lease is another one"
                + " than on the day before.", RentSentences::nextDayWithAnotherRent);
        Sentence.of(19, "`lease`: its number", RentSentences::nextChangeOfLeasesByNumber);
        Sentence.of(19, "`day`: 0 to 7199", RentSentences::nextChangeBehindDays0To7199);
        Sentence.of(19, "Returns the day; NONE if there is none up to 7199.",
                RentSentences::dayOrNoneUpTo7199);
        Sentence.of(19, "Throws `IndexOutOfBoundsException` if there is no such lease or day",
                RentSentences::nextChangeOfNoSuchLeaseOrDay);
    }

    private static void due(String what, Object want, Object got) {
        Check.due(what, want, got);
    }

    private static void howManyLeases() {
        Scene.EMPTY.answers("leases() of a new object", 0, Voidrent::leases);
        Scene.SOME.answers("leases()", 3, Voidrent::leases);
        Scene.FULL.answers("leases() of a full object", 24, Voidrent::leases);
        Voidrent x = new Voidrent();
        for (int lease = 0; lease < 24; lease++) {
            due("before lease " + lease, lease, x.leases());
            x.let(0, 2 * lease, 2 * lease + 2, 7);
            Check.throwing("the same again", Check.STATE, () -> x.let(0, 0, 1, 7));
            due("with lease " + lease, lease + 1, x.leases());
        }
        x.end(5, 11);
        due("one that has ended counts still", 24, x.leases());
        Check.throwing("a 25th", Check.STATE, () -> x.let(1, 0, 1, 7));
        due("24 are all", 24, x.leases());
    }

    private static void leaseOfADay() {
        Voidrent x = new Voidrent();
        x.let(0, 50, 60, 7);
        x.let(0, 60, 70, 7);
        x.let(0, 40, 50, 7);
        x.let(1, 55, 65, 7);
        due("the first of the three", 2, x.leaseOn(0, 49));
        due("the second", 0, x.leaseOn(0, 50));
        due("its last day", 0, x.leaseOn(0, 59));
        due("the third", 1, x.leaseOn(0, 60));
        due("another unit's", 3, x.leaseOn(1, 60));
    }

    private static void leaseOnUnits0To5() {
        Voidrent x = new Voidrent();
        for (int unit = 0; unit < 6; unit++) {
            x.let(5 - unit, 10, 20, 7);
        }
        for (int unit = 0; unit < 6; unit++) {
            due("unit " + unit, 5 - unit, x.leaseOn(unit, 10));
        }
        Scene.SOME.refuses("leaseOn(-1, 10)", Check.PLACE, y -> y.leaseOn(-1, 10));
        Scene.SOME.refuses("leaseOn(6, 10)", Check.PLACE, y -> y.leaseOn(6, 10));
    }

    private static void leaseOnDays0To7199() {
        Voidrent x = new Voidrent();
        x.let(0, 0, 1, 7);
        x.let(0, 7199, 7200, 7);
        due("day 0", 0, x.leaseOn(0, 0));
        due("day 1", NONE, x.leaseOn(0, 1));
        due("day 7198", NONE, x.leaseOn(0, 7198));
        due("day 7199", 1, x.leaseOn(0, 7199));
        Scene.SOME.refuses("leaseOn(0, -1)", Check.PLACE, y -> y.leaseOn(0, -1));
        Scene.SOME.refuses("leaseOn(1, 7200)", Check.PLACE, y -> y.leaseOn(1, 7200));
    }

    private static void numberOrNone() {
        ONE.answers("leaseOn(1, 99)", NONE, x -> x.leaseOn(1, 99));
        ONE.answers("leaseOn(1, 100)", 0, x -> x.leaseOn(1, 100));
        ONE.answers("leaseOn(1, 199)", 0, x -> x.leaseOn(1, 199));
        ONE.answers("leaseOn(1, 200)", NONE, x -> x.leaseOn(1, 200));
        ONE.answers("leaseOn(0, 100)", NONE, x -> x.leaseOn(0, 100));
        ONE.answers("leaseOn(2, 199)", NONE, x -> x.leaseOn(2, 199));
        Scene.EMPTY.answers("leaseOn(0, 0) of a new object", NONE, x -> x.leaseOn(0, 0));
        Scene.FULL.answers("leaseOn(5, 239)", 23, x -> x.leaseOn(5, 239));
        Scene.FULL.answers("leaseOn(5, 240)", NONE, x -> x.leaseOn(5, 240));
        Voidrent y = ONE.make();
        y.end(0, 101);
        due("its only day", 0, y.leaseOn(1, 100));
        due("a day that it has no more", NONE, y.leaseOn(1, 101));
        due("let again", 1, y.let(1, 101, 150, 8));
        due("the other one's day then", 1, y.leaseOn(1, 101));
    }

    private static void leaseOnNoSuchUnitOrDay() {
        for (Scene scene : new Scene[] {Scene.EMPTY, Scene.SOME, Scene.FULL}) {
            scene.refusesEach("leaseOn(%d, 100)", Check.PLACE, Scene.NO_UNIT,
                    (x, unit) -> x.leaseOn(unit, 100));
            scene.refusesEach("leaseOn(0, %d)", Check.PLACE, Scene.NO_DAY,
                    (x, day) -> x.leaseOn(0, day));
            scene.refusesEach("leaseOn(5, %d)", Check.PLACE, Scene.NO_DAY,
                    (x, day) -> x.leaseOn(5, day));
            scene.refuses("leaseOn(6, 7200)", Check.PLACE, x -> x.leaseOn(6, 7200));
        }
    }

    private static void rentOfADay() {
        Voidrent x = Scene.SOME.make();
        due("a free day", 0, x.rentOn(0, 24));
        due("the first paid day", 900, x.rentOn(0, 25));
        due("the last day before a step", 900, x.rentOn(0, 49));
        due("the step's day", 1000, x.rentOn(0, 50));
        due("the last day before a review", 1000, x.rentOn(0, 69));
        due("the review's day: 1000 * 100 / 90", 1111, x.rentOn(0, 70));
        due("the last day before the next one", 1111, x.rentOn(0, 129));
        due("the next review's day: 1000 * 120 / 90", 1333, x.rentOn(0, 130));
        due("a step down: 800 * 120 / 90", 1066, x.rentOn(0, 150));
        due("a review with less: still 800 * 120 / 90", 1066, x.rentOn(0, 190));
    }

    private static void rentOfLeasesByNumber() {
        for (int lease = 0; lease < 24; lease++) {
            int l = lease;
            Scene.FULL.answers("rentOn(" + l + ", its first day)", 100 + l, x -> x.rentOn(l, 10 * l));
        }
        Scene.FULL.refuses("rentOn(24, 230)", Check.PLACE, x -> x.rentOn(24, 230));
        Scene.SOME.refuses("rentOn(3, 7150)", Check.PLACE, x -> x.rentOn(3, 7150));
        Scene.SOME.refuses("rentOn(-1, 60)", Check.PLACE, x -> x.rentOn(-1, 60));
    }

    private static void rentOnDays0To7199() {
        Voidrent x = new Voidrent();
        x.let(0, 0, 7200, 31);
        due("day 0", 31, x.rentOn(0, 0));
        due("day 7199", 31, x.rentOn(0, 7199));
        Scene.SOME.refuses("rentOn(0, -1)", Check.PLACE, y -> y.rentOn(0, -1));
        Scene.SOME.refuses("rentOn(2, 7200)", Check.PLACE, y -> y.rentOn(2, 7200));
    }

    private static void rentOrNothing() {
        ONE.answers("rentOn(0, 0)", 0, x -> x.rentOn(0, 0));
        ONE.answers("rentOn(0, 99)", 0, x -> x.rentOn(0, 99));
        ONE.answers("rentOn(0, 100)", 50, x -> x.rentOn(0, 100));
        ONE.answers("rentOn(0, 199)", 50, x -> x.rentOn(0, 199));
        ONE.answers("rentOn(0, 200)", 0, x -> x.rentOn(0, 200));
        ONE.answers("rentOn(0, 7199)", 0, x -> x.rentOn(0, 7199));
        Scene.SOME.answers("the next lease's day: rentOn(0, 200)", 0, x -> x.rentOn(0, 200));
        Scene.SOME.answers("the lease before's day: rentOn(1, 199)", 0, x -> x.rentOn(1, 199));
        Voidrent y = ONE.make();
        y.step(0, 180, 70);
        y.end(0, 150);
        due("its last day now", 50, y.rentOn(0, 149));
        due("a day that it has no more", 0, y.rentOn(0, 150));
        due("the day of a step that it has no more", 0, y.rentOn(0, 180));
    }

    private static void rentOnNoSuchLeaseOrDay() {
        Scene.refuseNoLease("rentOn(%d, 60)", (x, lease) -> x.rentOn(lease, 60));
        Scene.refuseNoLease("rentOn(%d, 7200)", (x, lease) -> x.rentOn(lease, 7200));
        for (int lease = 0; lease < 3; lease++) {
            int l = lease;
            Scene.SOME.refusesEach("rentOn(" + l + ", %d)", Check.PLACE, Scene.NO_DAY,
                    (x, day) -> x.rentOn(l, day));
        }
        Scene.FULL.refusesEach("rentOn(23, %d)", Check.PLACE, Scene.NO_DAY,
                (x, day) -> x.rentOn(23, day));
    }

    private static void nextDayWithAnotherRent() {
        ONE.answers("its first day", 100, x -> x.nextChange(0, 0));
        ONE.answers("behind the day before", 100, x -> x.nextChange(0, 99));
        ONE.answers("not the day itself, so its end", 200, x -> x.nextChange(0, 100));
        ONE.answers("behind its last day", 200, x -> x.nextChange(0, 199));
        ONE.answers("behind its end", NONE, x -> x.nextChange(0, 200));
        Voidrent x = ONE.make();
        x.step(0, 120, 50);
        due("a step to the same rent", 200, x.nextChange(0, 100));
        x.step(0, 130, 51);
        x.step(0, 131, 50);
        due("one more", 130, x.nextChange(0, 100));
        due("less again on the very next day", 131, x.nextChange(0, 130));
        x.setTerms(0, 10, 30);
        due("the free days are over", 110, x.nextChange(0, 0));
        x.setIndex(3, 50);
        due("a review that raises", 130, x.nextChange(0, 110));
        due("a step behind it", 131, x.nextChange(0, 130));
        due("a review that raises no more", 200, x.nextChange(0, 131));
        x.setTerms(0, 100, 30);
        due("free on all its days", NONE, x.nextChange(0, 0));
    }

    private static void nextChangeOfLeasesByNumber() {
        for (int lease = 1; lease < 24; lease++) {
            int l = lease;
            Scene.FULL.answers("nextChange(" + l + ", 0)", 10 * l, x -> x.nextChange(l, 0));
        }
        Scene.FULL.answers("nextChange(0, 0)", 10, x -> x.nextChange(0, 0));
        Scene.FULL.refuses("nextChange(24, 0)", Check.PLACE, x -> x.nextChange(24, 0));
        Scene.SOME.refuses("nextChange(3, 0)", Check.PLACE, x -> x.nextChange(3, 0));
        Scene.SOME.refuses("nextChange(-1, 0)", Check.PLACE, x -> x.nextChange(-1, 0));
    }

    private static void nextChangeBehindDays0To7199() {
        Voidrent x = new Voidrent();
        x.let(0, 0, 7200, 31);
        due("day 0 has no day before", NONE, x.nextChange(0, 0));
        x.step(0, 1, 32);
        due("behind day 0", 1, x.nextChange(0, 0));
        due("behind day 1", NONE, x.nextChange(0, 1));
        x.step(0, 7199, 33);
        due("behind day 7198", 7199, x.nextChange(0, 7198));
        due("behind day 7199", NONE, x.nextChange(0, 7199));
        Scene.SOME.refuses("nextChange(0, -1)", Check.PLACE, y -> y.nextChange(0, -1));
        Scene.SOME.refuses("nextChange(2, 7200)", Check.PLACE, y -> y.nextChange(2, 7200));
    }

    private static void dayOrNoneUpTo7199() {
        Voidrent x = new Voidrent();
        x.let(0, 7100, 7200, 31);
        due("its first day", 7100, x.nextChange(0, 0));
        due("its end is behind 7199", NONE, x.nextChange(0, 7100));
        x.end(0, 7199);
        due("its end is 7199", 7199, x.nextChange(0, 7100));
        due("none behind it", NONE, x.nextChange(0, 7199));
        Voidrent y = new Voidrent();
        y.let(0, 7199, 7200, 31);
        due("its only day is 7199", 7199, y.nextChange(0, 0));
        due("none behind it", NONE, y.nextChange(0, 7199));
        y.setTerms(0, 720, 1800);
        due("free on it", NONE, y.nextChange(0, 0));
        Voidrent z = new Voidrent();
        z.let(0, 0, 7200, 31);
        z.setTerms(0, 0, 30);
        due("239 reviews that raise nothing", NONE, z.nextChange(0, 0));
        z.setIndex(239, 999);
        due("the last of them raises", 7170, z.nextChange(0, 0));
    }

    private static void nextChangeOfNoSuchLeaseOrDay() {
        Scene.refuseNoLease("nextChange(%d, 60)", (x, lease) -> x.nextChange(lease, 60));
        Scene.refuseNoLease("nextChange(%d, 7200)", (x, lease) -> x.nextChange(lease, 7200));
        for (int lease = 0; lease < 3; lease++) {
            int l = lease;
            Scene.SOME.refusesEach("nextChange(" + l + ", %d)", Check.PLACE, Scene.NO_DAY,
                    (x, day) -> x.nextChange(l, day));
        }
    }
}
