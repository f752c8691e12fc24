/** The sentences of promises 8 and 9: what is agreed of free days, reviews, caps, and prepayment. */
final class AgreedSentences {
    private static final int NONE = Voidrent.NONE;
    private static final int LEAST = Scene.LEAST;
    private static final int MOST = Scene.MOST;
    private static final int[] NO_FREE = {-1, 721, LEAST, MOST};
    private static final int[] NO_EVERY = {-1, 1, 15, 29, 1801, -30, LEAST, MOST};
    private static final int[] NO_CAP = {-2, 1000000, LEAST, MOST};
    private static final int[] NO_PREPAID = {-1, 10000, LEAST, MOST};

    private AgreedSentences() {
    }

    static void test() {
        Sentence.of(8, "Sets how many days of a lease are free, and after how many days each it is"
                + " reviewed.", AgreedSentences::setsTerms);
        Sentence.of(8, "`lease`: its number", AgreedSentences::termsOfLeasesByNumber);
        Sentence.of(8, "`free`: 0 to 720", AgreedSentences::free0To720);
        Sentence.of(8, "`every`: 30 to 1800; 0 for no reviews", AgreedSentences::every30To1800);
        Sentence.of(8, "Throws `IndexOutOfBoundsException` if there is no such lease",
                AgreedSentences::termsOfNoSuchLease);
        Sentence.of(8, "Throws `IllegalArgumentException` if free or every is out of range",
                AgreedSentences::termsOutOfRange);

        Sentence.of(9, "Sets the cap of a lease, and what is prepaid.", AgreedSentences::setsService);
        Sentence.of(9, "`lease`: its number", AgreedSentences::serviceOfLeasesByNumber);
        Sentence.of(9, "`cap`: 0 to 999999; NONE for no cap", AgreedSentences::cap0To999999);
        Sentence.of(9, "`prepaid`: 0 to 9999 for a month", AgreedSentences::prepaid0To9999);
        Sentence.of(9, "Throws `IndexOutOfBoundsException` if there is no such lease",
                AgreedSentences::serviceOfNoSuchLease);
        Sentence.of(9, "Throws `IllegalArgumentException` if cap or prepaid is out of range",
                AgreedSentences::serviceOutOfRange);
    }

    static Object terms(Voidrent x, int lease, int free, int every) {
        x.setTerms(lease, free, every);
        return "set";
    }

    static Object service(Voidrent x, int lease, int cap, int prepaid) {
        x.setService(lease, cap, prepaid);
        return "set";
    }

    private static void due(String what, Object want, Object got) {
        Check.due(what, want, got);
    }

    /** Unit 0 on all days for 100, in a world whose index rises to 200 at the second month. */
    private static Voidrent allDays() {
        Voidrent x = new Voidrent();
        x.let(0, 0, 7200, 100);
        for (int month = 1; month < 240; month++) {
            x.setIndex(month, 200);
        }
        return x;
    }

    /** Unit 0 on the 360 days of year 0, alone with an area, in a year that costs all it can. */
    private static Voidrent oneYear() {
        Voidrent x = new Voidrent();
        x.setArea(0, 10);
        x.setCost(0, 999999);
        x.let(0, 0, 360, 100);
        return x;
    }

    private static void setsTerms() {
        Voidrent x = allDays();
        due("nothing is free at first", 100, x.rentOn(0, 0));
        due("nothing is reviewed at first", 100, x.rentOn(0, 7199));
        x.setTerms(0, 5, 60);
        due("the last free day", 0, x.rentOn(0, 4));
        due("the first day that isn't", 100, x.rentOn(0, 5));
        due("reviewed", 200, x.rentOn(0, 60));
        x.setTerms(0, 3, 90);
        due("what was free before", 100, x.rentOn(0, 3));
        due("what was reviewed before", 100, x.rentOn(0, 89));
        due("what is reviewed now", 200, x.rentOn(0, 90));
        x.setTerms(0, 0, 0);
        due("nothing is free again", 100, x.rentOn(0, 0));
        due("nothing is reviewed again", 100, x.rentOn(0, 7199));
    }

    private static void termsOfLeasesByNumber() {
        Voidrent x = Scene.FULL.make();
        for (int lease = 0; lease < 24; lease++) {
            x.setTerms(lease, 1 + lease % 9, 0);
        }
        for (int lease = 0; lease < 24; lease++) {
            int free = 1 + lease % 9;
            due("the last free day of " + lease, 0, x.rentOn(lease, 10 * lease + free - 1));
            due("the next day of " + lease, true, x.rentOn(lease, 10 * lease + free) >= 100 + lease);
        }
        Scene.FULL.refuses("setTerms(24, 1, 30)", Check.PLACE, y -> terms(y, 24, 1, 30));
        Scene.SOME.refuses("setTerms(3, 1, 30)", Check.PLACE, y -> terms(y, 3, 1, 30));
        Scene.SOME.refuses("setTerms(-1, 1, 30)", Check.PLACE, y -> terms(y, -1, 1, 30));
    }

    private static void free0To720() {
        Voidrent x = allDays();
        x.setTerms(0, 720, 0);
        due("the last of 720 free days", 0, x.rentOn(0, 719));
        due("the day behind them", 100, x.rentOn(0, 720));
        x.setTerms(0, 1, 0);
        due("the only free day", 0, x.rentOn(0, 0));
        due("the day behind it", 100, x.rentOn(0, 1));
        x.setTerms(0, 0, 0);
        due("no free day", 100, x.rentOn(0, 0));
        Scene.SOME.refuses("setTerms(0, -1, 30)", Check.ARGUMENT, y -> terms(y, 0, -1, 30));
        Scene.SOME.refuses("setTerms(0, 721, 30)", Check.ARGUMENT, y -> terms(y, 0, 721, 30));
    }

    private static void every30To1800() {
        Voidrent x = allDays();
        x.setTerms(0, 0, 30);
        due("before the earliest review", 100, x.rentOn(0, 29));
        due("the earliest review", 200, x.rentOn(0, 30));
        x.setTerms(0, 0, 31);
        due("a day later", 100, x.rentOn(0, 30));
        due("the review then", 200, x.rentOn(0, 31));
        x.setTerms(0, 0, 1800);
        due("before the latest first review", 100, x.rentOn(0, 1799));
        due("the latest first review", 200, x.rentOn(0, 1800));
        x.setTerms(0, 0, 0);
        due("no reviews", 100, x.rentOn(0, 7199));
        due("and no change", NONE, x.nextChange(0, 0));
        Scene.SOME.refuses("setTerms(0, 5, 29)", Check.ARGUMENT, y -> terms(y, 0, 5, 29));
        Scene.SOME.refuses("setTerms(0, 5, 1801)", Check.ARGUMENT, y -> terms(y, 0, 5, 1801));
        Scene.SOME.refuses("setTerms(0, 5, 1)", Check.ARGUMENT, y -> terms(y, 0, 5, 1));
        Scene.SOME.refuses("setTerms(0, 5, -1)", Check.ARGUMENT, y -> terms(y, 0, 5, -1));
    }

    private static void termsOfNoSuchLease() {
        Scene.refuseNoLease("setTerms(%d, 0, 0)", (x, lease) -> terms(x, lease, 0, 0));
        Scene.refuseNoLease("setTerms(%d, 721, 30)", (x, lease) -> terms(x, lease, 721, 30));
        Scene.refuseNoLease("setTerms(%d, 0, 29)", (x, lease) -> terms(x, lease, 0, 29));
    }

    private static void termsOutOfRange() {
        for (int lease = 0; lease < 3; lease++) {
            int l = lease;
            Scene.SOME.refusesEach("setTerms(" + l + ", %d, 0)", Check.ARGUMENT, NO_FREE,
                    (x, free) -> terms(x, l, free, 0));
            Scene.SOME.refusesEach("setTerms(" + l + ", 7, %d)", Check.ARGUMENT, NO_EVERY,
                    (x, every) -> terms(x, l, 7, every));
            Scene.SOME.refusesEach("setTerms(" + l + ", %d, 90)", Check.ARGUMENT, NO_FREE,
                    (x, free) -> terms(x, l, free, 90));
        }
        Scene.FULL.refuses("setTerms(23, 721, 1801)", Check.ARGUMENT, x -> terms(x, 23, 721, 1801));
    }

    private static void setsService() {
        Voidrent x = oneYear();
        due("no cap at first", 999999, x.part(0, 0));
        due("nothing is prepaid at first", 999999, x.balance(0, 0));
        x.setService(0, 700, 50);
        due("capped", 700, x.part(0, 0));
        due("less what is prepaid", 100, x.balance(0, 0));
        x.setService(0, 800, 60);
        due("another cap", 800, x.part(0, 0));
        due("less another amount", 80, x.balance(0, 0));
        x.setService(0, NONE, 0);
        due("no cap again", 999999, x.part(0, 0));
        due("nothing is prepaid again", 999999, x.balance(0, 0));
    }

    private static void serviceOfLeasesByNumber() {
        Voidrent x = new Voidrent();
        x.setArea(0, 1);
        x.setCost(0, 999999);
        for (int lease = 0; lease < 24; lease++) {
            x.let(0, 15 * lease, 15 * lease + 15, 100);
            x.setService(lease, 24 * (100 + lease), 2 * lease);
        }
        for (int lease = 0; lease < 24; lease++) {
            due("the cap of " + lease, 100 + lease, x.part(lease, 0));
            due("less what is prepaid of " + lease, 100, x.balance(lease, 0));
        }
        Scene.FULL.refuses("setService(24, 0, 10)", Check.PLACE, y -> service(y, 24, 0, 10));
        Scene.SOME.refuses("setService(3, 0, 10)", Check.PLACE, y -> service(y, 3, 0, 10));
        Scene.SOME.refuses("setService(-1, 0, 10)", Check.PLACE, y -> service(y, -1, 0, 10));
    }

    private static void cap0To999999() {
        Voidrent x = oneYear();
        x.setService(0, 0, 0);
        due("a cap of nothing", 0, x.part(0, 0));
        due("all is the owner's", 999999, x.owners(0));
        x.setService(0, 1, 0);
        due("a cap of 1", 1, x.part(0, 0));
        x.setService(0, 999998, 0);
        due("one less than the cost", 999998, x.part(0, 0));
        x.setService(0, 999999, 0);
        due("the greatest cap", 999999, x.part(0, 0));
        x.setService(0, 5, 0);
        x.setService(0, NONE, 0);
        due("no cap", 999999, x.part(0, 0));
        Scene.SOME.refuses("setService(0, -2, 10)", Check.ARGUMENT, y -> service(y, 0, -2, 10));
        Scene.SOME.refuses("setService(0, 1000000, 10)", Check.ARGUMENT, y -> service(y, 0, 1000000, 10));
    }

    private static void prepaid0To9999() {
        Voidrent x = oneYear();
        x.setService(0, NONE, 9999);
        due("the greatest", 999999 - 12 * 9999, x.balance(0, 0));
        x.setService(0, NONE, 1);
        due("the least but nothing", 999999 - 12, x.balance(0, 0));
        x.setService(0, NONE, 0);
        due("nothing", 999999, x.balance(0, 0));
        Scene.SOME.refuses("setService(0, 5, -1)", Check.ARGUMENT, y -> service(y, 0, 5, -1));
        Scene.SOME.refuses("setService(0, 5, 10000)", Check.ARGUMENT, y -> service(y, 0, 5, 10000));
    }

    private static void serviceOfNoSuchLease() {
        Scene.refuseNoLease("setService(%d, 0, 0)", (x, lease) -> service(x, lease, 0, 0));
        Scene.refuseNoLease("setService(%d, -2, 0)", (x, lease) -> service(x, lease, -2, 0));
        Scene.refuseNoLease("setService(%d, 0, 10000)", (x, lease) -> service(x, lease, 0, 10000));
    }

    private static void serviceOutOfRange() {
        for (int lease = 0; lease < 3; lease++) {
            int l = lease;
            Scene.SOME.refusesEach("setService(" + l + ", %d, 7)", Check.ARGUMENT, NO_CAP,
                    (x, cap) -> service(x, l, cap, 7));
            Scene.SOME.refusesEach("setService(" + l + ", 3, %d)", Check.ARGUMENT, NO_PREPAID,
                    (x, prepaid) -> service(x, l, 3, prepaid));
            Scene.SOME.refusesEach("setService(" + l + ", NONE, %d)", Check.ARGUMENT, NO_PREPAID,
                    (x, prepaid) -> service(x, l, NONE, prepaid));
        }
        Scene.FULL.refuses("setService(23, -2, 10000)", Check.ARGUMENT, x -> service(x, 23, -2, 10000));
    }
}
