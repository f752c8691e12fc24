/** The sentences of promises 10 to 12: deposits are topped up, drawn from, and asked. */
final class DepositSentences {
    private static final int LEAST = Scene.LEAST;
    private static final int MOST = Scene.MOST;
    private static final int[] NO_RENTS = {0, -1, 7, LEAST, MOST, 1431655766};
    private static final int[] NO_AMOUNT = {0, -1, 1000000, LEAST, MOST};

    /** Days 100 to 199 of unit 1, for 50, of which the first five are free; 100 are held. */
    private static final Scene ONE = new Scene(new int[] {100}, x -> {
        x.let(1, 100, 200, 50);
        x.setTerms(0, 5, 0);
        x.topUp(0, 105, 2);
    });

    private DepositSentences() {
    }

    static void test() {
        Sentence.of(10, "Tops the deposit of a lease up to some rents of a day, if less is held.",
                DepositSentences::topsUpIfLessIsHeld);
        Sentence.of(10, "`lease`: its number", DepositSentences::topsUpLeasesByNumber);
        Sentence.of(10, "`day`: one of its days", DepositSentences::topsUpOnOneOfItsDays);
        Sentence.of(10, "`rents`: 1 to 6: how many times the rent on that day",
                DepositSentences::topsUp1To6Rents);
        Sentence.of(10, "Returns by how much.", DepositSentences::returnsByHowMuch);
        Sentence.of(10, "Throws `IndexOutOfBoundsException` if there is no such lease",
                DepositSentences::topsUpNoSuchLease);
        Sentence.of(10, "Throws `IllegalArgumentException` if day is none of its days, or rents is out"
                + " of range", DepositSentences::topsUpNoneOfItsDays);

        Sentence.of(11, "Draws money from the deposit of a lease.", DepositSentences::drawsMoney);
        Sentence.of(11, "`lease`: its number", DepositSentences::drawsFromLeasesByNumber);
        Sentence.of(11, "`amount`: 1 to 999999", DepositSentences::draws1To999999);
        Sentence.of(11, "Returns what is held then.", DepositSentences::returnsWhatIsHeldThen);
        Sentence.of(11, "Throws `IndexOutOfBoundsException` if there is no such lease",
                DepositSentences::drawsFromNoSuchLease);
        Sentence.of(11, "Throws `IllegalArgumentException` if amount is out of range",
                DepositSentences::drawsOutOfRange);
        Sentence.of(11, "Throws `IllegalStateException` if less is held", DepositSentences::lessIsHeld);

        Sentence.of(12, "Returns what is held as the deposit of a lease.", DepositSentences::whatIsHeld);
        Sentence.of(12, "`lease`: its number", DepositSentences::heldOfLeasesByNumber);
        Sentence.of(12, "Returns the amount.", DepositSentences::returnsTheAmount);
        Sentence.of(12, "Throws `IndexOutOfBoundsException` if there is no such lease",
                DepositSentences::heldOfNoSuchLease);
    }

    private static void due(String what, Object want, Object got) {
        Check.due(what, want, got);
    }

    /** Lease 0 with the greatest rent there is, from day 30 on: 9989900. */
    private static Voidrent greatestRent() {
        Voidrent x = new Voidrent();
        x.setIndex(0, 10);
        x.setIndex(1, 999);
        x.let(0, 0, 7200, 99999);
        x.setTerms(0, 0, 30);
        return x;
    }

    private static void topsUpIfLessIsHeld() {
        Voidrent x = ONE.make();
        due("as much is held", 0, x.topUp(0, 110, 2));
        due("still", 100, x.held(0));
        due("more is held", 0, x.topUp(0, 110, 1));
        due("still", 100, x.held(0));
        due("less is held", 50, x.topUp(0, 110, 3));
        due("as many rents", 150, x.held(0));
        due("one less", 149, x.draw(0, 1));
        due("less is held by one", 1, x.topUp(0, 110, 3));
        due("as many rents again", 150, x.held(0));
    }

    private static void topsUpLeasesByNumber() {
        Voidrent x = new Voidrent();
        for (int lease = 0; lease < 24; lease++) {
            x.let(lease % 6, 10 * lease, 10 * lease + 10, 100 + lease);
        }
        for (int lease = 0; lease < 24; lease++) {
            due("lease " + lease, 200 + 2 * lease, x.topUp(lease, 10 * lease, 2));
        }
        for (int lease = 0; lease < 24; lease++) {
            due("held of " + lease, 200 + 2 * lease, x.held(lease));
        }
        Scene.FULL.refuses("topUp(24, 230, 1)", Check.PLACE, y -> y.topUp(24, 230, 1));
        Scene.SOME.refuses("topUp(3, 7100, 1)", Check.PLACE, y -> y.topUp(3, 7100, 1));
        Scene.SOME.refuses("topUp(-1, 60, 6)", Check.PLACE, y -> y.topUp(-1, 60, 6));
    }

    private static void topsUpOnOneOfItsDays() {
        Voidrent x = new Voidrent();
        x.let(1, 100, 200, 50);
        due("its first day", 50, x.topUp(0, 100, 1));
        due("its last day", 50, x.topUp(0, 199, 2));
        ONE.refuses("topUp(0, 99, 6)", Check.ARGUMENT, y -> y.topUp(0, 99, 6));
        ONE.refuses("topUp(0, 200, 6)", Check.ARGUMENT, y -> y.topUp(0, 200, 6));
        x.end(0, 150);
        Check.throwing("a day that it has no more", Check.ARGUMENT, () -> x.topUp(0, 150, 6));
        due("the last one that it has", 50, x.topUp(0, 149, 3));
        Voidrent z = new Voidrent();
        z.let(0, 0, 7200, 8);
        due("the first of all days", 8, z.topUp(0, 0, 1));
        due("the last of all days", 8, z.topUp(0, 7199, 2));
    }

    private static void topsUp1To6Rents() {
        for (int rents = 1; rents <= 6; rents++) {
            Voidrent x = new Voidrent();
            x.let(1, 100, 200, 50);
            x.step(0, 150, 70);
            due(rents + " rents of a day", 50 * rents, x.topUp(0, 149, rents));
            due(rents + " rents of a later day", 20 * rents, x.topUp(0, 150, rents));
        }
        ONE.refuses("topUp(0, 150, 0)", Check.ARGUMENT, y -> y.topUp(0, 150, 0));
        ONE.refuses("topUp(0, 150, 7)", Check.ARGUMENT, y -> y.topUp(0, 150, 7));
    }

    private static void returnsByHowMuch() {
        ONE.answers("topUp(0, 104, 6) on a free day", 0, x -> x.topUp(0, 104, 6));
        ONE.answers("topUp(0, 105, 2), as much as is held", 0, x -> x.topUp(0, 105, 2));
        ONE.answers("topUp(0, 105, 1), less than is held", 0, x -> x.topUp(0, 105, 1));
        Voidrent x = ONE.make();
        due("what was missing", 200, x.topUp(0, 105, 6));
        due("nothing more", 0, x.topUp(0, 105, 6));
        Voidrent y = greatestRent();
        due("the greatest of all", 6 * 9989900, y.topUp(0, 7199, 6));
        due("nothing more", 0, y.topUp(0, 30, 6));
        Voidrent z = new Voidrent();
        z.let(0, 0, 1, 1);
        due("the least of all", 1, z.topUp(0, 0, 1));
    }

    private static void topsUpNoSuchLease() {
        Scene.refuseNoLease("topUp(%d, 60, 6)", (x, lease) -> x.topUp(lease, 60, 6));
        Scene.refuseNoLease("topUp(%d, -1, 6)", (x, lease) -> x.topUp(lease, -1, 6));
        Scene.refuseNoLease("topUp(%d, 60, 7)", (x, lease) -> x.topUp(lease, 60, 7));
    }

    private static void topsUpNoneOfItsDays() {
        int[] none = {99, 0, -1, 200, 201, 7199, 7200, LEAST, MOST};
        ONE.refusesEach("topUp(0, %d, 6)", Check.ARGUMENT, none, (x, day) -> x.topUp(0, day, 6));
        ONE.refusesEach("topUp(0, 150, %d)", Check.ARGUMENT, NO_RENTS,
                (x, rents) -> x.topUp(0, 150, rents));
        ONE.refusesEach("topUp(0, 100, %d) on a free day", Check.ARGUMENT, NO_RENTS,
                (x, rents) -> x.topUp(0, 100, rents));
        Scene.SOME.refuses("another lease's day: topUp(0, 200, 6)", Check.ARGUMENT,
                x -> x.topUp(0, 200, 6));
        Scene.SOME.refuses("another lease's day: topUp(1, 199, 6)", Check.ARGUMENT,
                x -> x.topUp(1, 199, 6));
    }

    private static void drawsMoney() {
        Voidrent x = ONE.make();
        due("some of it", 70, x.draw(0, 30));
        due("what is held", 70, x.held(0));
        due("the rest", 0, x.draw(0, 70));
        due("nothing is held", 0, x.held(0));
        due("topped up again", 50, x.topUp(0, 110, 1));
        due("the rest again", 0, x.draw(0, 50));
    }

    private static void drawsFromLeasesByNumber() {
        Voidrent x = new Voidrent();
        for (int lease = 0; lease < 24; lease++) {
            x.let(lease % 6, 10 * lease, 10 * lease + 10, 100 + lease);
            x.topUp(lease, 10 * lease, 1);
        }
        for (int lease = 0; lease < 24; lease++) {
            due("lease " + lease, 99, x.draw(lease, 1 + lease));
        }
        for (int lease = 0; lease < 24; lease++) {
            due("held of " + lease, 99, x.held(lease));
        }
        Scene.FULL.refuses("draw(24, 1)", Check.PLACE, y -> y.draw(24, 1));
        Scene.SOME.refuses("draw(3, 1)", Check.PLACE, y -> y.draw(3, 1));
        Scene.SOME.refuses("draw(-1, 1)", Check.PLACE, y -> y.draw(-1, 1));
    }

    private static void draws1To999999() {
        Voidrent x = greatestRent();
        due("enough is held", 9989900, x.topUp(0, 30, 1));
        due("least", 9989899, x.draw(0, 1));
        due("greatest", 8989900, x.draw(0, 999999));
        Check.throwing("more than the greatest, though it is held", Check.ARGUMENT, () -> x.draw(0, 1000000));
        due("nothing is drawn", 8989900, x.held(0));
        ONE.refuses("draw(0, 0)", Check.ARGUMENT, y -> y.draw(0, 0));
        ONE.refuses("draw(0, 1000000)", Check.ARGUMENT, y -> y.draw(0, 1000000));
    }

    private static void returnsWhatIsHeldThen() {
        Voidrent x = ONE.make();
        due("one less", 99, x.draw(0, 1));
        due("all but one", 1, x.draw(0, 98));
        due("nothing", 0, x.draw(0, 1));
        Voidrent y = greatestRent();
        y.topUp(0, 30, 6);
        due("the greatest deposit less one", 6 * 9989900 - 1, y.draw(0, 1));
    }

    private static void drawsFromNoSuchLease() {
        Scene.refuseNoLease("draw(%d, 1)", (x, lease) -> x.draw(lease, 1));
        Scene.refuseNoLease("draw(%d, 0)", (x, lease) -> x.draw(lease, 0));
        Scene.refuseNoLease("draw(%d, 999999)", (x, lease) -> x.draw(lease, 999999));
    }

    private static void drawsOutOfRange() {
        ONE.refusesEach("draw(0, %d)", Check.ARGUMENT, NO_AMOUNT, (x, amount) -> x.draw(0, amount));
        Scene nothing = new Scene(new int[] {100}, x -> x.let(1, 100, 200, 50));
        nothing.refusesEach("nothing is held: draw(0, %d)", Check.ARGUMENT, NO_AMOUNT,
                (x, amount) -> x.draw(0, amount));
        Scene much = new Scene(new int[] {0}, x -> {
            x.setIndex(0, 10);
            x.let(0, 0, 7200, 99999);
            x.setTerms(0, 0, 30);
            x.topUp(0, 30, 6);
        });
        much.refusesEach("much is held: draw(0, %d)", Check.ARGUMENT, NO_AMOUNT,
                (x, amount) -> x.draw(0, amount));
    }

    private static void lessIsHeld() {
        ONE.refusesEach("100 are held: draw(0, %d)", Check.STATE, new int[] {101, 102, 999999},
                (x, amount) -> x.draw(0, amount));
        due("just what is held", 0, ONE.make().draw(0, 100));
        Scene nothing = new Scene(new int[] {100, 100}, x -> {
            x.let(1, 100, 200, 50);
            x.let(2, 100, 200, 50);
            x.topUp(0, 100, 1);
        });
        nothing.refusesEach("another lease holds 50: draw(1, %d)", Check.STATE, new int[] {1, 50, 999999},
                (x, amount) -> x.draw(1, amount));
        Voidrent x = ONE.make();
        x.draw(0, 100);
        Check.throwing("nothing is held any more", Check.STATE, () -> x.draw(0, 1));
        due("nothing is drawn", 0, x.held(0));
    }

    private static void whatIsHeld() {
        Voidrent x = new Voidrent();
        x.let(0, 0, 90, 400);
        due("nothing at first", 0, x.held(0));
        x.topUp(0, 0, 6);
        due("six rents", 2400, x.held(0));
        x.end(0, 1);
        due("behind an earlier end", 2400, x.held(0));
        x.setTerms(0, 720, 0);
        due("where all days are free", 2400, x.held(0));
        x.draw(0, 2400);
        due("nothing again", 0, x.held(0));
    }

    private static void heldOfLeasesByNumber() {
        due("the first's", 100, Scene.FULL.make().held(0));
        due("the last's", 1236, Scene.FULL.make().held(23));
        for (int lease = 1; lease < 23; lease++) {
            int l = lease;
            Scene.FULL.answers("held(" + l + ")", 0, x -> x.held(l));
        }
        Scene.FULL.refuses("held(24)", Check.PLACE, y -> y.held(24));
        Scene.SOME.refuses("held(3)", Check.PLACE, y -> y.held(3));
        Scene.SOME.refuses("held(-1)", Check.PLACE, y -> y.held(-1));
    }

    private static void returnsTheAmount() {
        Scene.SOME.answers("held(0)", 2000, x -> x.held(0));
        Scene.SOME.answers("held(1), where nothing is held", 0, x -> x.held(1));
        Voidrent x = greatestRent();
        x.topUp(0, 30, 6);
        due("the greatest deposit", 6 * 9989900, x.held(0));
    }

    private static void heldOfNoSuchLease() {
        Scene.refuseNoLease("held(%d)", (x, lease) -> x.held(lease));
    }
}
