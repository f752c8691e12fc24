/** The sentences of promises 20 to 24: void days, parts of the cost, balances, and shares. */
final class ServiceSentences {
    private static final int NONE = Voidrent.NONE;

    private ServiceSentences() {
    }

    static void test() {
        Sentence.of(20, "Returns how many days of a year a unit is not let.",
                ServiceSentences::daysNotLet);
        Sentence.of(20, "`unit`: 0 to 5", ServiceSentences::voidsOfUnits0To5);
        Sentence.of(20, "`year`: 0 to 19", ServiceSentences::voidsOfYears0To19);
        Sentence.of(20, "Returns 0 to 360.", ServiceSentences::returns0To360);
        Sentence.of(20, "Throws `IndexOutOfBoundsException` if there is no such unit or year",
                ServiceSentences::voidsOfNoSuchUnitOrYear);

        Sentence.of(21, "Returns the part of a lease in the cost of a year.",
                ServiceSentences::partInTheCost);
        Sentence.of(21, "`lease`: its number", ServiceSentences::partOfLeasesByNumber);
        Sentence.of(21, "`year`: 0 to 19", ServiceSentences::partInYears0To19);
        Sentence.of(21, "Returns the part; 0 if no unit has an area.", ServiceSentences::partOrNothing);
        Sentence.of(21, "Throws `IndexOutOfBoundsException` if there is no such lease or year",
                ServiceSentences::partOfNoSuchLeaseOrYear);

        Sentence.of(22, "Returns the owner's part in the cost of a year.", ServiceSentences::ownersPart);
        Sentence.of(22, "`year`: 0 to 19", ServiceSentences::ownersInYears0To19);
        Sentence.of(22, "Returns the part.", ServiceSentences::returnsTheOwnersPart);
        Sentence.of(22, "Throws `IndexOutOfBoundsException` if there is no such year",
                ServiceSentences::ownersInNoSuchYear);

        Sentence.of(23, "Returns the part of a lease in the cost of a year less what is prepaid.",
                ServiceSentences::partLessPrepaid);
        Sentence.of(23, "`lease`: its number", ServiceSentences::balanceOfLeasesByNumber);
        Sentence.of(23, "`year`: 0 to 19", ServiceSentences::balanceInYears0To19);
        Sentence.of(23, "Returns the difference, below 0 if more is prepaid.",
                ServiceSentences::below0IfMoreIsPrepaid);
        Sentence.of(23, "Throws `IndexOutOfBoundsException` if there is no such lease or year",
                ServiceSentences::balanceOfNoSuchLeaseOrYear);

        Sentence.of(24, "Returns the share of a unit in all areas: its area, as a double, divided by the"
                + " sum of all.", ServiceSentences::shareInAllAreas);
        Sentence.of(24, "`unit`: 0 to 5", ServiceSentences::shareOfUnits0To5);
        Sentence.of(24, "Returns the share; 0.0 if no unit has an area.",
                ServiceSentences::shareOrNothing);
        Sentence.of(24, "Throws `IndexOutOfBoundsException` if there is no such unit",
                ServiceSentences::shareOfNoSuchUnit);
    }

    private static void due(String what, Object want, Object got) {
        Check.due(what, want, got);
    }

    /** Unit 0, which has the only area, on all days, in 20 years that cost 1000, 1001 and so on. */
    private static Voidrent allDays() {
        Voidrent x = new Voidrent();
        x.setArea(0, 10);
        x.let(0, 0, 7200, 100);
        for (int year = 0; year < 20; year++) {
            x.setCost(year, 1000 + year);
        }
        return x;
    }

    private static void daysNotLet() {
        Voidrent x = new Voidrent();
        x.let(0, 350, 730, 5);
        due("ten days of year 0 are let", 350, x.voids(0, 0));
        due("all of year 1", 0, x.voids(0, 1));
        due("ten of year 2", 350, x.voids(0, 2));
        due("none of year 3", 360, x.voids(0, 3));
        x.let(0, 0, 350, 5);
        due("two leases, all of year 0", 0, x.voids(0, 0));
        x.end(1, 349);
        due("less a day", 1, x.voids(0, 0));
        due("another unit's", 360, x.voids(1, 0));
    }

    private static void voidsOfUnits0To5() {
        Voidrent x = new Voidrent();
        for (int unit = 0; unit < 6; unit++) {
            x.let(unit, 10, 20 + unit, 7);
        }
        for (int unit = 0; unit < 6; unit++) {
            due("unit " + unit, 350 - unit, x.voids(unit, 0));
        }
        Scene.SOME.refuses("voids(-1, 0)", Check.PLACE, y -> y.voids(-1, 0));
        Scene.SOME.refuses("voids(6, 0)", Check.PLACE, y -> y.voids(6, 0));
    }

    private static void voidsOfYears0To19() {
        Voidrent x = new Voidrent();
        x.let(0, 0, 1, 7);
        x.let(0, 7197, 7200, 7);
        due("year 0", 359, x.voids(0, 0));
        due("year 1", 360, x.voids(0, 1));
        due("year 18", 360, x.voids(0, 18));
        due("year 19", 357, x.voids(0, 19));
        Scene.SOME.refuses("voids(0, -1)", Check.PLACE, y -> y.voids(0, -1));
        Scene.SOME.refuses("voids(1, 20)", Check.PLACE, y -> y.voids(1, 20));
    }

    private static void returns0To360() {
        Scene.EMPTY.answers("voids(0, 0) of a new object", 360, x -> x.voids(0, 0));
        Scene.SOME.answers("voids(1, 0), never let in it", 360, x -> x.voids(1, 0));
        Voidrent x = new Voidrent();
        x.let(2, 360, 720, 7);
        due("let on all days", 0, x.voids(2, 1));
        due("let from its end on", 360, x.voids(2, 0));
        due("let up to its first day", 360, x.voids(2, 2));
        x.end(0, 719);
        due("let on all but the last day", 1, x.voids(2, 1));
        x.let(3, 361, 720, 7);
        due("let on all but the first day", 1, x.voids(3, 1));
        x.let(4, 719, 721, 7);
        due("let on the last day alone", 359, x.voids(4, 1));
        due("and on the first of the next year", 359, x.voids(4, 2));
        x.let(5, 0, 7200, 7);
        due("always let", 0, x.voids(5, 10));
    }

    private static void voidsOfNoSuchUnitOrYear() {
        for (Scene scene : new Scene[] {Scene.EMPTY, Scene.SOME, Scene.FULL}) {
            scene.refusesEach("voids(%d, 0)", Check.PLACE, Scene.NO_UNIT, (x, unit) -> x.voids(unit, 0));
            scene.refusesEach("voids(0, %d)", Check.PLACE, Scene.NO_YEAR, (x, year) -> x.voids(0, year));
            scene.refusesEach("voids(5, %d)", Check.PLACE, Scene.NO_YEAR, (x, year) -> x.voids(5, year));
            scene.refuses("voids(6, 20)", Check.PLACE, x -> x.voids(6, 20));
        }
    }

    private static void partInTheCost() {
        Scene.SOME.answers("190 days, but the cap: 500 * 190 / 360", 263, x -> x.part(0, 0));
        Scene.SOME.answers("160 days: 7200 * 100 * 160 / (400 * 360)", 800, x -> x.part(1, 0));
        Scene.SOME.answers("40 days: 999 * 100 * 40 / (400 * 360)", 27, x -> x.part(1, 1));
        Scene.SOME.answers("100 days: 5000 * 300 * 100 / (400 * 360)", 1041, x -> x.part(2, 19));
        Scene.SOME.answers("no days", 0, x -> x.part(2, 0));
    }

    private static void partOfLeasesByNumber() {
        for (int lease = 0; lease < 24; lease++) {
            int l = lease;
            int part = (int) (100000L * (10 + l % 6) * 10 / (75 * 360));
            Scene.FULL.answers("part(" + l + ", 0)", part, x -> x.part(l, 0));
        }
        Scene.FULL.refuses("part(24, 0)", Check.PLACE, x -> x.part(24, 0));
        Scene.SOME.refuses("part(3, 19)", Check.PLACE, x -> x.part(3, 19));
        Scene.SOME.refuses("part(-1, 0)", Check.PLACE, x -> x.part(-1, 0));
    }

    private static void partInYears0To19() {
        Voidrent x = allDays();
        for (int year = 0; year < 20; year++) {
            due("year " + year, 1000 + year, x.part(0, year));
        }
        Scene.SOME.refuses("part(0, -1)", Check.PLACE, y -> y.part(0, -1));
        Scene.SOME.refuses("part(2, 20)", Check.PLACE, y -> y.part(2, 20));
    }

    private static void partOrNothing() {
        Voidrent x = new Voidrent();
        x.setCost(0, 999999);
        x.let(0, 0, 360, 100);
        x.let(1, 0, 1, 100);
        due("no unit has an area", 0, x.part(0, 0));
        x.setService(0, 500, 0);
        due("no unit has an area, with a cap", 0, x.part(0, 0));
        x.setService(0, NONE, 0);
        x.setArea(1, 1);
        due("its own unit has none", 0, x.part(0, 0));
        due("one day: 999999 / 360", 2777, x.part(1, 0));
        x.setArea(0, 999);
        due("the greatest product: 999999 * 999 / 1000", 998999, x.part(0, 0));
        x.setArea(1, 0);
        due("all of the greatest cost", 999999, x.part(0, 0));
        x.setArea(0, 0);
        due("no unit has an area again", 0, x.part(0, 0));
        due("no cost", 0, x.part(0, 1));
    }

    private static void partOfNoSuchLeaseOrYear() {
        Scene.refuseNoLease("part(%d, 0)", (x, lease) -> x.part(lease, 0));
        Scene.refuseNoLease("part(%d, 20)", (x, lease) -> x.part(lease, 20));
        for (int lease = 0; lease < 3; lease++) {
            int l = lease;
            Scene.SOME.refusesEach("part(" + l + ", %d)", Check.PLACE, Scene.NO_YEAR,
                    (x, year) -> x.part(l, year));
        }
        Scene noArea = new Scene(new int[] {0}, x -> x.let(0, 0, 360, 100));
        noArea.refusesEach("no unit has an area: part(0, %d)", Check.PLACE, Scene.NO_YEAR,
                (x, year) -> x.part(0, year));
    }

    private static void ownersPart() {
        Scene.SOME.answers("owners(0)", 7200 - 263 - 800, x -> x.owners(0));
        Scene.SOME.answers("owners(1)", 999 - 27, x -> x.owners(1));
        Scene.SOME.answers("owners(19)", 5000 - 1041, x -> x.owners(19));
        Scene.SOME.answers("owners(2), where there is no cost", 0, x -> x.owners(2));
    }

    private static void ownersInYears0To19() {
        Voidrent x = allDays();
        x.end(0, 7199);
        for (int year = 0; year < 19; year++) {
            due("year " + year, 0, x.owners(year));
        }
        due("year 19, the last day of which is void: 1019 less 1016", 3, x.owners(19));
        Scene.SOME.refuses("owners(-1)", Check.PLACE, y -> y.owners(-1));
        Scene.SOME.refuses("owners(20)", Check.PLACE, y -> y.owners(20));
    }

    private static void returnsTheOwnersPart() {
        Scene.EMPTY.answers("owners(0) of a new object", 0, x -> x.owners(0));
        Voidrent x = new Voidrent();
        x.setCost(0, 999999);
        due("all of it, as there is no lease", 999999, x.owners(0));
        x.let(0, 0, 360, 100);
        due("all of it, as no unit has an area", 999999, x.owners(0));
        x.setArea(1, 5);
        due("all of it, as the leased unit has none", 999999, x.owners(0));
        x.setArea(0, 5);
        due("half of it, rounded up", 500000, x.owners(0));
        x.let(1, 0, 360, 100);
        due("what rounding leaves", 1, x.owners(0));
        x.setArea(1, 0);
        due("nothing", 0, x.owners(0));
        x.setService(0, 0, 0);
        due("all of it, as the cap is 0", 999999, x.owners(0));
        int parts = 0;
        for (int lease = 0; lease < 24; lease++) {
            parts += (int) (100000L * (10 + lease % 6) * 10 / (75 * 360));
        }
        int rest = 100000 - parts;
        Scene.FULL.answers("what 24 leases leave", rest, y -> y.owners(0));
    }

    private static void ownersInNoSuchYear() {
        Scene.EMPTY.refusesEach("owners(%d)", Check.PLACE, Scene.NO_YEAR, (x, year) -> x.owners(year));
        Scene.SOME.refusesEach("owners(%d)", Check.PLACE, Scene.NO_YEAR, (x, year) -> x.owners(year));
        Scene.FULL.refusesEach("owners(%d)", Check.PLACE, Scene.NO_YEAR, (x, year) -> x.owners(year));
    }

    private static void partLessPrepaid() {
        Scene.SOME.answers("263 less 10 * 190 / 30", 263 - 63, x -> x.balance(0, 0));
        Scene.SOME.answers("800 less 20 * 160 / 30", 800 - 106, x -> x.balance(1, 0));
        Scene.SOME.answers("27 less 20 * 40 / 30", 27 - 26, x -> x.balance(1, 1));
        Scene.SOME.answers("nothing prepaid", 1041, x -> x.balance(2, 19));
        Scene.SOME.answers("no days", 0, x -> x.balance(0, 1));
    }

    private static void balanceOfLeasesByNumber() {
        Voidrent x = new Voidrent();
        for (int lease = 0; lease < 24; lease++) {
            x.let(lease % 6, 30 * lease, 30 * lease + 30, 100);
            x.setService(lease, NONE, 1000 + lease);
        }
        for (int lease = 0; lease < 24; lease++) {
            due("lease " + lease, -1000 - lease, x.balance(lease, lease / 12));
        }
        Scene.FULL.refuses("balance(24, 0)", Check.PLACE, y -> y.balance(24, 0));
        Scene.SOME.refuses("balance(3, 19)", Check.PLACE, y -> y.balance(3, 19));
        Scene.SOME.refuses("balance(-1, 0)", Check.PLACE, y -> y.balance(-1, 0));
    }

    private static void balanceInYears0To19() {
        Voidrent x = allDays();
        x.setService(0, NONE, 50);
        for (int year = 0; year < 20; year++) {
            due("year " + year, 400 + year, x.balance(0, year));
        }
        Scene.SOME.refuses("balance(0, -1)", Check.PLACE, y -> y.balance(0, -1));
        Scene.SOME.refuses("balance(2, 20)", Check.PLACE, y -> y.balance(2, 20));
    }

    private static void below0IfMoreIsPrepaid() {
        Voidrent x = new Voidrent();
        x.setArea(0, 10);
        x.setCost(0, 1200);
        x.let(0, 0, 360, 100);
        x.setService(0, NONE, 99);
        due("less is prepaid", 12, x.balance(0, 0));
        x.setService(0, NONE, 100);
        due("as much is prepaid", 0, x.balance(0, 0));
        x.setService(0, NONE, 101);
        due("more is prepaid", -12, x.balance(0, 0));
        x.setService(0, 0, 9999);
        due("the least of all", -119988, x.balance(0, 0));
        x.setCost(0, 999999);
        x.setService(0, NONE, 0);
        due("the greatest of all", 999999, x.balance(0, 0));
        x.setArea(0, 0);
        x.setService(0, NONE, 7);
        due("no unit has an area", -84, x.balance(0, 0));
    }

    private static void balanceOfNoSuchLeaseOrYear() {
        Scene.refuseNoLease("balance(%d, 0)", (x, lease) -> x.balance(lease, 0));
        Scene.refuseNoLease("balance(%d, 20)", (x, lease) -> x.balance(lease, 20));
        for (int lease = 0; lease < 3; lease++) {
            int l = lease;
            Scene.SOME.refusesEach("balance(" + l + ", %d)", Check.PLACE, Scene.NO_YEAR,
                    (x, year) -> x.balance(l, year));
        }
    }

    private static void shareInAllAreas() {
        Scene.SOME.answers("share(0)", 0.25, x -> x.share(0));
        Scene.SOME.answers("share(1)", 0.75, x -> x.share(1));
        Scene.SOME.answers("a unit without an area: share(2)", 0.0, x -> x.share(2));
        Voidrent x = new Voidrent();
        x.setArea(0, 1);
        x.setArea(1, 2);
        due("a third, as a double", 1.0 / 3, x.share(0));
        due("two thirds, as a double", 2.0 / 3, x.share(1));
        x.setArea(2, 999);
        due("the least there is beside it", 1.0 / 1002, x.share(0));
        due("nearly all", 999.0 / 1002, x.share(2));
    }

    private static void shareOfUnits0To5() {
        for (int unit = 0; unit < 6; unit++) {
            int u = unit;
            Scene.FULL.answers("share(" + u + ")", (10.0 + u) / 75, x -> x.share(u));
        }
        Scene.FULL.refuses("share(-1)", Check.PLACE, x -> x.share(-1));
        Scene.FULL.refuses("share(6)", Check.PLACE, x -> x.share(6));
    }

    private static void shareOrNothing() {
        for (int unit = 0; unit < 6; unit++) {
            int u = unit;
            Scene.EMPTY.answers("share(" + u + ") of a new object", 0.0, x -> x.share(u));
            Voidrent x = new Voidrent();
            x.setArea(u, 1);
            due("the only area, if it is the least", 1.0, x.share(u));
            x.setArea(u, 999);
            due("the only area, if it is the greatest", 1.0, x.share(u));
            x.setArea(u, 0);
            due("no area again", 0.0, x.share(u));
        }
        Voidrent y = new Voidrent();
        for (int unit = 0; unit < 6; unit++) {
            y.setArea(unit, 999);
        }
        due("a sixth of the greatest sum", 999.0 / 5994, y.share(5));
        Voidrent z = new Voidrent();
        z.let(0, 0, 360, 100);
        due("let, but no unit has an area", 0.0, z.share(0));
    }

    private static void shareOfNoSuchUnit() {
        Scene.EMPTY.refusesEach("share(%d)", Check.PLACE, Scene.NO_UNIT, (x, unit) -> x.share(unit));
        Scene.SOME.refusesEach("share(%d)", Check.PLACE, Scene.NO_UNIT, (x, unit) -> x.share(unit));
        Scene.FULL.refusesEach("share(%d)", Check.PLACE, Scene.NO_UNIT, (x, unit) -> x.share(unit));
    }
}
