/** Each promise of the document by itself: ordinary calls, the edges, and wrong arguments. */
public final class PromiseTests {
    private static final int LEAST = Integer.MIN_VALUE;
    private static final int MOST = Integer.MAX_VALUE;

    public static void main(String[] args) {
        promise1NewObject();
        promise2SetArea();
        promise3SetIndex();
        promise4SetCost();
        promise5Let();
        promise5LetInOneUnit();
        promise5LetOutOfLeases();
        promise6End();
        promise7Step();
        promise7StepOutOfSteps();
        promise8SetTerms();
        promise9SetService();
        promise10TopUp();
        promise11Draw();
        promise12Held();
        promise13Leases();
        promise14LeaseOn();
        promise15RentOn();
        promise15RentByReviews();
        promise16Bill();
        promise16BillOfManyRents();
        promise17BillByDays();
        promise18Bills();
        promise19NextChange();
        promise19NextChangeBetweenEqualRents();
        promise20Voids();
        promise21Part();
        promise21PartWithCap();
        promise22Owners();
        promise23Balance();
        promise24Share();
        noLeaseNoAnswer();
        Check.close("PromiseTests");
    }

    private static void due(String what, Object want, Object got) {
        Check.due(what, want, got);
    }

    private static void noPlace(String what, Check.Call call) {
        Check.throwing(what, Check.PLACE, call);
    }

    private static void noArgument(String what, Check.Call call) {
        Check.throwing(what, Check.ARGUMENT, call);
    }

    private static void noState(String what, Check.Call call) {
        Check.throwing(what, Check.STATE, call);
    }

    private static Object terms(Voidrent x, int lease, int free, int every) {
        x.setTerms(lease, free, every);
        return "set";
    }

    private static Object service(Voidrent x, int lease, int cap, int prepaid) {
        x.setService(lease, cap, prepaid);
        return "set";
    }

    /** Lease 0 of unit 1, from day 100 up to day 199. */
    private static Voidrent oneLease(int rent) {
        Voidrent x = new Voidrent();
        due("let", 0, x.let(1, 100, 200, rent));
        return x;
    }

    private static void promise1NewObject() {
        Voidrent x = new Voidrent();
        due("leases", 0, x.leases());
        for (int unit = 0; unit < 6; unit++) {
            due("share " + unit, 0.0, x.share(unit));
            for (int year = 0; year < 20; year++) {
                due("voids", 360, x.voids(unit, year));
            }
            due("leaseOn 0", Voidrent.NONE, x.leaseOn(unit, 0));
            due("leaseOn 7199", Voidrent.NONE, x.leaseOn(unit, 7199));
            due("area", 0, x.setArea(unit, 0));
        }
        for (int year = 0; year < 20; year++) {
            due("owners", 0, x.owners(year));
            due("cost", 0, x.setCost(year, 0));
        }
        for (int month = 0; month < 240; month++) {
            due("index", 100, x.setIndex(month, 100));
        }
        Voidrent other = new Voidrent();
        x.setArea(0, 5);
        x.let(0, 0, 1, 1);
        due("another object's leases", 0, other.leases());
        due("another object's area", 0, other.setArea(0, 1));
    }

    private static void promise2SetArea() {
        Voidrent x = new Voidrent();
        due("first", 0, x.setArea(0, 999));
        due("second", 999, x.setArea(0, 0));
        due("third", 0, x.setArea(0, 7));
        due("last unit", 0, x.setArea(5, 21));
        noPlace("unit -1", () -> x.setArea(-1, 5));
        noPlace("unit 6", () -> x.setArea(6, 5));
        noPlace("least unit", () -> x.setArea(LEAST, 5));
        noPlace("most unit", () -> x.setArea(MOST, 5));
        noPlace("unit before area", () -> x.setArea(6, -1));
        noArgument("area -1", () -> x.setArea(0, -1));
        noArgument("area 1000", () -> x.setArea(0, 1000));
        noArgument("least area", () -> x.setArea(0, LEAST));
        noArgument("most area", () -> x.setArea(0, MOST));
        due("kept", 7, x.setArea(0, 7));
        due("share", 0.25, x.share(0));
    }

    private static void promise3SetIndex() {
        Voidrent x = new Voidrent();
        due("first", 100, x.setIndex(0, 10));
        due("second", 10, x.setIndex(0, 999));
        due("last month", 100, x.setIndex(239, 11));
        noPlace("month -1", () -> x.setIndex(-1, 100));
        noPlace("month 240", () -> x.setIndex(240, 100));
        noPlace("least month", () -> x.setIndex(LEAST, 100));
        noPlace("most month", () -> x.setIndex(MOST, 100));
        noPlace("month before index", () -> x.setIndex(240, 9));
        noArgument("index 9", () -> x.setIndex(0, 9));
        noArgument("index 1000", () -> x.setIndex(0, 1000));
        noArgument("index 0", () -> x.setIndex(0, 0));
        noArgument("least index", () -> x.setIndex(0, LEAST));
        noArgument("most index", () -> x.setIndex(0, MOST));
        due("kept", 999, x.setIndex(0, 998));
        due("another month", 100, x.setIndex(1, 100));
    }

    private static void promise4SetCost() {
        Voidrent x = new Voidrent();
        due("first", 0, x.setCost(0, 999999));
        due("second", 999999, x.setCost(0, 0));
        due("third", 0, x.setCost(0, 44));
        due("last year", 0, x.setCost(19, 5));
        noPlace("year -1", () -> x.setCost(-1, 5));
        noPlace("year 20", () -> x.setCost(20, 5));
        noPlace("least year", () -> x.setCost(LEAST, 5));
        noPlace("most year", () -> x.setCost(MOST, 5));
        noPlace("year before cost", () -> x.setCost(20, -1));
        noArgument("cost -1", () -> x.setCost(0, -1));
        noArgument("cost 1000000", () -> x.setCost(0, 1000000));
        noArgument("least cost", () -> x.setCost(0, LEAST));
        noArgument("most cost", () -> x.setCost(0, MOST));
        due("kept", 44, x.owners(0));
        due("last kept", 5, x.owners(19));
        due("another year", 0, x.owners(1));
    }

    private static void promise5Let() {
        Voidrent x = new Voidrent();
        due("all days", 0, x.let(0, 0, 7200, 99999));
        due("first day", 1, x.let(5, 0, 1, 1));
        due("last day", 2, x.let(5, 7199, 7200, 1));
        noPlace("unit -1", () -> x.let(-1, 0, 1, 1));
        noPlace("unit 6", () -> x.let(6, 0, 1, 1));
        noPlace("least unit", () -> x.let(LEAST, 0, 1, 1));
        noPlace("most unit", () -> x.let(MOST, 0, 1, 1));
        noArgument("from -1", () -> x.let(1, -1, 1, 1));
        noArgument("from 7200", () -> x.let(1, 7200, 7201, 1));
        noArgument("from 7200 alone", () -> x.let(1, 7200, 7200, 1));
        noArgument("least from", () -> x.let(1, LEAST, 5, 1));
        noArgument("most from", () -> x.let(1, MOST, 5, 1));
        noArgument("from at to", () -> x.let(1, 5, 5, 1));
        noArgument("from behind to", () -> x.let(1, 6, 5, 1));
        noArgument("to 7201", () -> x.let(1, 5, 7201, 1));
        noArgument("least to", () -> x.let(1, 5, LEAST, 1));
        noArgument("most to", () -> x.let(1, 5, MOST, 1));
        noArgument("rent 0", () -> x.let(1, 5, 6, 0));
        noArgument("rent 100000", () -> x.let(1, 5, 6, 100000));
        noArgument("least rent", () -> x.let(1, 5, 6, LEAST));
        noArgument("most rent", () -> x.let(1, 5, 6, MOST));
        noPlace("unit before from", () -> x.let(6, -1, 1, 1));
        noPlace("unit before rent", () -> x.let(6, 0, 1, 0));
        noArgument("rent before the days", () -> x.let(0, 0, 1, 0));
        noArgument("to before the days", () -> x.let(0, 0, 7201, 1));
        noArgument("from before the days", () -> x.let(0, -1, 5, 1));
        due("nothing added", 3, x.leases());
        due("nothing let", 360, x.voids(1, 0));
        due("rent", 99999, x.rentOn(0, 7199));
    }

    private static void promise5LetInOneUnit() {
        Voidrent x = oneLease(50);
        noState("same days", () -> x.let(1, 100, 200, 1));
        noState("first day", () -> x.let(1, 99, 101, 1));
        noState("last day", () -> x.let(1, 199, 300, 1));
        noState("inside", () -> x.let(1, 150, 151, 1));
        noState("around", () -> x.let(1, 0, 7200, 1));
        due("nothing added", 1, x.leases());
        due("just behind", 1, x.let(1, 200, 201, 1));
        due("just before", 2, x.let(1, 99, 100, 1));
        due("another unit", 3, x.let(2, 100, 200, 1));
        noState("the second lease's day", () -> x.let(1, 200, 230, 1));
        due("ends earlier", 200, x.end(0, 150));
        noState("not that early", () -> x.let(1, 149, 200, 1));
        due("days that became free", 4, x.let(1, 150, 200, 1));
    }

    private static void promise5LetOutOfLeases() {
        Voidrent x = new Voidrent();
        for (int lease = 0; lease < 24; lease++) {
            due("lease", lease, x.let(lease % 6, 10 * lease, 10 * lease + 10, lease + 1));
        }
        noState("a 25th", () -> x.let(0, 1000, 1001, 1));
        noArgument("argument first", () -> x.let(0, 1000, 1000, 1));
        noArgument("rent first", () -> x.let(0, 1000, 1001, 0));
        noPlace("unit first", () -> x.let(6, 1000, 1001, 1));
        due("leases", 24, x.leases());
        due("none on that day", Voidrent.NONE, x.leaseOn(0, 1000));
        due("last one's rent", 24, x.rentOn(23, 230));
    }

    private static void promise6End() {
        Voidrent x = oneLease(50);
        due("step", 1, x.step(0, 180, 70));
        noArgument("as it is", () -> x.end(0, 200));
        noArgument("later", () -> x.end(0, 201));
        noArgument("first day", () -> x.end(0, 100));
        noArgument("before it", () -> x.end(0, 99));
        noArgument("least", () -> x.end(0, LEAST));
        noArgument("most", () -> x.end(0, MOST));
        noPlace("lease -1", () -> x.end(-1, 150));
        noPlace("lease 1", () -> x.end(1, 150));
        noPlace("lease before to", () -> x.end(1, 7201));
        due("nothing ended", 0, x.leaseOn(1, 199));
        due("a day earlier", 200, x.end(0, 199));
        due("and again", 199, x.end(0, 150));
        due("last day", 50, x.rentOn(0, 149));
        due("behind it", 0, x.rentOn(0, 150));
        due("the step's day", 0, x.rentOn(0, 180));
        due("the step stays told", 2, x.step(0, 120, 60));
        due("one day is left", 150, x.end(0, 101));
        noArgument("no day can go", () -> x.end(0, 100));
        noArgument("nor stay", () -> x.end(0, 101));
        due("its only day", 50, x.rentOn(0, 100));
    }

    private static void promise7Step() {
        Voidrent x = oneLease(50);
        noArgument("first day", () -> x.step(0, 100, 60));
        noArgument("before it", () -> x.step(0, 99, 60));
        noArgument("behind its days", () -> x.step(0, 200, 60));
        noArgument("least day", () -> x.step(0, LEAST, 60));
        noArgument("most day", () -> x.step(0, MOST, 60));
        noArgument("rent 0", () -> x.step(0, 150, 0));
        noArgument("rent 100000", () -> x.step(0, 150, 100000));
        noArgument("least rent", () -> x.step(0, 150, LEAST));
        noArgument("most rent", () -> x.step(0, 150, MOST));
        noPlace("lease -1", () -> x.step(-1, 150, 60));
        noPlace("lease 1", () -> x.step(1, 150, 60));
        noPlace("lease before day", () -> x.step(1, 100, 60));
        noPlace("lease before rent", () -> x.step(1, 150, 0));
        due("nothing stepped", 50, x.rentOn(0, 199));
        due("last day", 1, x.step(0, 199, 99999));
        due("second day", 2, x.step(0, 101, 1));
        due("between", 3, x.step(0, 150, 70));
        due("that day again", 3, x.step(0, 150, 40));
        due("first day", 50, x.rentOn(0, 100));
        due("second day", 1, x.rentOn(0, 101));
        due("up to the next", 1, x.rentOn(0, 149));
        due("that day", 40, x.rentOn(0, 150));
        due("up to the last", 40, x.rentOn(0, 198));
        due("last day", 99999, x.rentOn(0, 199));
    }

    private static void promise7StepOutOfSteps() {
        Voidrent x = oneLease(50);
        for (int step = 1; step <= 6; step++) {
            due("step", step, x.step(0, 200 - 10 * step, 100 + step));
        }
        noState("a seventh", () -> x.step(0, 145, 60));
        noArgument("day first", () -> x.step(0, 200, 60));
        noArgument("rent first", () -> x.step(0, 145, 0));
        noPlace("lease first", () -> x.step(1, 145, 60));
        due("nothing stepped", 106, x.rentOn(0, 145));
        due("the first again", 6, x.step(0, 190, 77));
        due("the sixth again", 6, x.step(0, 140, 78));
        due("the first's rent", 77, x.rentOn(0, 190));
        due("the sixth's rent", 78, x.rentOn(0, 145));
        due("ends earlier", 200, x.end(0, 150));
        noState("still six", () -> x.step(0, 145, 60));
        noArgument("a step behind its days", () -> x.step(0, 190, 60));
        due("another lease", 1, x.let(1, 150, 200, 9));
        due("has its own steps", 1, x.step(1, 190, 10));
    }

    private static void promise8SetTerms() {
        Voidrent x = new Voidrent();
        x.let(0, 0, 7200, 100);
        x.setIndex(1, 200);
        due("at first not free", 100, x.rentOn(0, 0));
        due("at first no reviews", 100, x.rentOn(0, 7199));
        due("set", "set", terms(x, 0, 720, 30));
        due("free", 0, x.rentOn(0, 719));
        due("reviewed", 200, x.rentOn(0, 720));
        noArgument("free -1", () -> terms(x, 0, -1, 30));
        noArgument("free 721", () -> terms(x, 0, 721, 30));
        noArgument("least free", () -> terms(x, 0, LEAST, 30));
        noArgument("most free", () -> terms(x, 0, MOST, 30));
        noArgument("every -1", () -> terms(x, 0, 0, -1));
        noArgument("every 1", () -> terms(x, 0, 0, 1));
        noArgument("every 29", () -> terms(x, 0, 0, 29));
        noArgument("every 1801", () -> terms(x, 0, 0, 1801));
        noArgument("least every", () -> terms(x, 0, 0, LEAST));
        noArgument("most every", () -> terms(x, 0, 0, MOST));
        noPlace("lease -1", () -> terms(x, -1, 0, 0));
        noPlace("lease 1", () -> terms(x, 1, 0, 0));
        noPlace("lease before free", () -> terms(x, 1, -1, 0));
        noPlace("lease before every", () -> terms(x, 1, 0, 29));
        due("free still", 0, x.rentOn(0, 719));
        due("reviewed still", 200, x.rentOn(0, 720));
        x.setIndex(60, 300);
        due("set again", "set", terms(x, 0, 0, 1800));
        due("not free", 100, x.rentOn(0, 0));
        due("before the review", 100, x.rentOn(0, 1799));
        due("from the review on", 300, x.rentOn(0, 1800));
        due("no reviews again", "set", terms(x, 0, 1, 0));
        due("one day free", 0, x.rentOn(0, 0));
        due("not two", 100, x.rentOn(0, 1));
        due("not reviewed", 100, x.rentOn(0, 7199));
    }

    private static void promise9SetService() {
        Voidrent x = new Voidrent();
        x.setArea(0, 10);
        x.setCost(0, 999999);
        x.let(0, 0, 360, 100);
        due("no cap at first", 999999, x.part(0, 0));
        due("nothing prepaid at first", 999999, x.balance(0, 0));
        due("set", "set", service(x, 0, 0, 9999));
        due("a cap of 0", 0, x.part(0, 0));
        due("the most prepaid", -119988, x.balance(0, 0));
        noArgument("cap -2", () -> service(x, 0, -2, 5));
        noArgument("cap 1000000", () -> service(x, 0, 1000000, 5));
        noArgument("least cap", () -> service(x, 0, LEAST, 5));
        noArgument("most cap", () -> service(x, 0, MOST, 5));
        noArgument("prepaid -1", () -> service(x, 0, 5, -1));
        noArgument("prepaid 10000", () -> service(x, 0, 5, 10000));
        noArgument("least prepaid", () -> service(x, 0, 5, LEAST));
        noArgument("most prepaid", () -> service(x, 0, 5, MOST));
        noArgument("prepaid without cap", () -> service(x, 0, Voidrent.NONE, -1));
        noPlace("lease -1", () -> service(x, -1, 5, 5));
        noPlace("lease 1", () -> service(x, 1, 5, 5));
        noPlace("lease before cap", () -> service(x, 1, -2, 5));
        noPlace("lease before prepaid", () -> service(x, 1, 5, -1));
        due("cap kept", 0, x.part(0, 0));
        due("prepaid kept", -119988, x.balance(0, 0));
        due("the greatest cap", "set", service(x, 0, 999999, 0));
        due("caps nothing", 999999, x.part(0, 0));
        due("a cap below", "set", service(x, 0, 999998, 0));
        due("caps", 999998, x.part(0, 0));
        due("no cap again", "set", service(x, 0, Voidrent.NONE, 1));
        due("no cap", 999999, x.part(0, 0));
        due("prepaid", 999987, x.balance(0, 0));
    }

    private static void promise10TopUp() {
        Voidrent x = oneLease(500);
        x.setTerms(0, 10, 0);
        x.step(0, 150, 700);
        due("a free day", 0, x.topUp(0, 100, 6));
        due("first paid day", 500, x.topUp(0, 110, 1));
        due("enough is held", 0, x.topUp(0, 110, 1));
        due("the rent of that day", 200, x.topUp(0, 199, 1));
        due("less would do", 0, x.topUp(0, 110, 1));
        due("six rents", 3500, x.topUp(0, 150, 6));
        noArgument("before its days", () -> x.topUp(0, 99, 6));
        noArgument("behind its days", () -> x.topUp(0, 200, 6));
        noArgument("least day", () -> x.topUp(0, LEAST, 6));
        noArgument("most day", () -> x.topUp(0, MOST, 6));
        noArgument("rents 0", () -> x.topUp(0, 150, 0));
        noArgument("rents 7", () -> x.topUp(0, 150, 7));
        noArgument("least rents", () -> x.topUp(0, 150, LEAST));
        noArgument("most rents", () -> x.topUp(0, 150, MOST));
        noPlace("lease -1", () -> x.topUp(-1, 150, 1));
        noPlace("lease 1", () -> x.topUp(1, 150, 1));
        noPlace("lease before day", () -> x.topUp(1, 99, 1));
        noPlace("lease before rents", () -> x.topUp(1, 150, 7));
        due("held", 4200, x.held(0));
        due("drawn", 4100, x.draw(0, 100));
        due("topped up again", 100, x.topUp(0, 150, 6));
        due("ends earlier", 200, x.end(0, 150));
        noArgument("no day of it any more", () -> x.topUp(0, 150, 6));
        due("held still", 4200, x.held(0));
    }

    private static void promise11Draw() {
        Voidrent x = oneLease(99999);
        noState("nothing is held", () -> x.draw(0, 1));
        x.topUp(0, 100, 6);
        noArgument("amount 0", () -> x.draw(0, 0));
        noArgument("amount -1", () -> x.draw(0, -1));
        noArgument("amount 1000000", () -> x.draw(0, 1000000));
        noArgument("least amount", () -> x.draw(0, LEAST));
        noArgument("most amount", () -> x.draw(0, MOST));
        noPlace("lease -1", () -> x.draw(-1, 1));
        noPlace("lease 1", () -> x.draw(1, 1));
        noPlace("lease before amount", () -> x.draw(1, 0));
        due("one", 599993, x.draw(0, 1));
        noState("one more than is held", () -> x.draw(0, 599994));
        noState("the most", () -> x.draw(0, 999999));
        due("held still", 599993, x.held(0));
        due("all of it", 0, x.draw(0, 599993));
        noArgument("amount first", () -> x.draw(0, 1000000));
        x.setIndex(3, 10);
        x.setIndex(6, 999);
        x.setTerms(0, 0, 90);
        due("a reviewed rent", 59939400, x.topUp(0, 190, 6));
        due("the most at once", 58939401, x.draw(0, 999999));
    }

    private static void promise12Held() {
        Voidrent x = oneLease(30);
        due("nothing at first", 0, x.held(0));
        x.topUp(0, 100, 2);
        due("topped up", 60, x.held(0));
        x.draw(0, 25);
        due("drawn", 35, x.held(0));
        x.let(1, 300, 301, 50);
        due("another lease", 0, x.held(1));
        x.end(0, 120);
        due("ended", 35, x.held(0));
        noPlace("lease -1", () -> x.held(-1));
        noPlace("lease 2", () -> x.held(2));
    }

    private static void promise13Leases() {
        Voidrent x = new Voidrent();
        due("none", 0, x.leases());
        x.let(3, 0, 5, 1);
        due("one", 1, x.leases());
        noState("no second", () -> x.let(3, 4, 5, 1));
        due("still one", 1, x.leases());
        x.end(0, 1);
        due("an ended one counts", 1, x.leases());
        x.let(3, 4, 5, 1);
        due("two", 2, x.leases());
    }

    private static void promise14LeaseOn() {
        Voidrent x = oneLease(30);
        x.let(1, 200, 210, 30);
        x.let(2, 0, 1, 30);
        x.let(2, 7199, 7200, 30);
        due("before", Voidrent.NONE, x.leaseOn(1, 99));
        due("first day", 0, x.leaseOn(1, 100));
        due("last day", 0, x.leaseOn(1, 199));
        due("the next one", 1, x.leaseOn(1, 200));
        due("behind", Voidrent.NONE, x.leaseOn(1, 210));
        due("another unit", Voidrent.NONE, x.leaseOn(0, 100));
        due("the first of all days", 2, x.leaseOn(2, 0));
        due("the last of all days", 3, x.leaseOn(2, 7199));
        due("last unit", Voidrent.NONE, x.leaseOn(5, 0));
        noPlace("unit -1", () -> x.leaseOn(-1, 100));
        noPlace("unit 6", () -> x.leaseOn(6, 100));
        noPlace("day -1", () -> x.leaseOn(1, -1));
        noPlace("day 7200", () -> x.leaseOn(1, 7200));
        noPlace("least day", () -> x.leaseOn(1, LEAST));
        noPlace("most day", () -> x.leaseOn(1, MOST));
    }

    private static void promise15RentOn() {
        Voidrent x = oneLease(500);
        due("before", 0, x.rentOn(0, 99));
        due("first day", 500, x.rentOn(0, 100));
        due("last day", 500, x.rentOn(0, 199));
        due("behind", 0, x.rentOn(0, 200));
        due("day 0", 0, x.rentOn(0, 0));
        due("day 7199", 0, x.rentOn(0, 7199));
        x.step(0, 105, 400);
        x.setTerms(0, 10, 0);
        due("first day, free", 0, x.rentOn(0, 100));
        due("last free day", 0, x.rentOn(0, 109));
        due("stepped while free", 400, x.rentOn(0, 110));
        x.setTerms(0, 720, 0);
        due("free to its end", 0, x.rentOn(0, 199));
        noPlace("lease -1", () -> x.rentOn(-1, 100));
        noPlace("lease 1", () -> x.rentOn(1, 100));
        noPlace("lease 24", () -> x.rentOn(24, 100));
        noPlace("day -1", () -> x.rentOn(0, -1));
        noPlace("day 7200", () -> x.rentOn(0, 7200));
        noPlace("least day", () -> x.rentOn(0, LEAST));
        noPlace("most day", () -> x.rentOn(0, MOST));
    }

    private static void promise15RentByReviews() {
        Voidrent x = new Voidrent();
        x.let(0, 45, 1000, 333);
        x.setTerms(0, 0, 50);
        x.setIndex(1, 30);
        x.setIndex(3, 31);
        x.setIndex(4, 40);
        x.setIndex(6, 20);
        due("before any review", 333, x.rentOn(0, 94));
        due("rounded down", 344, x.rentOn(0, 95));
        due("up to the second", 344, x.rentOn(0, 144));
        due("the second", 444, x.rentOn(0, 145));
        due("the third goes not down", 444, x.rentOn(0, 195));
        x.step(0, 200, 100);
        due("the rent of the day that is asked", 133, x.rentOn(0, 200));
        x.step(0, 145, 1000);
        due("stepped on the review day", 1333, x.rentOn(0, 145));
        due("before it", 344, x.rentOn(0, 144));
        x.setIndex(1, 100);
        due("never below the agreed one", 1000, x.rentOn(0, 145));
        x.setTerms(0, 60, 50);
        x.setIndex(3, 200);
        due("free", 0, x.rentOn(0, 104));
        due("reviewed while free", 666, x.rentOn(0, 105));
        x.setIndex(1, 10);
        x.setIndex(3, 999);
        x.step(0, 145, 99999);
        due("the greatest rent", 9989900, x.rentOn(0, 145));
        x.let(1, 7169, 7200, 100);
        x.setTerms(1, 0, 30);
        x.setIndex(239, 500);
        due("day 7198", 100, x.rentOn(1, 7198));
        due("a review on the last day", 500, x.rentOn(1, 7199));
    }

    private static void promise16Bill() {
        Voidrent x = oneLease(500);
        due("before", 0, x.bill(0, 2));
        due("20 days", 333, x.bill(0, 3));
        due("a whole month", 500, x.bill(0, 4));
        due("20 days more", 333, x.bill(0, 6));
        due("behind", 0, x.bill(0, 7));
        due("month 0", 0, x.bill(0, 0));
        due("month 239", 0, x.bill(0, 239));
        x.end(0, 121);
        due("one day", 16, x.bill(0, 4));
        x.let(2, 0, 1, 29);
        due("one day, rounded down", 0, x.bill(1, 0));
        due("by days", 0, x.billByDays(1, 0));
        noPlace("lease -1", () -> x.bill(-1, 4));
        noPlace("lease 2", () -> x.bill(2, 4));
        noPlace("month -1", () -> x.bill(0, -1));
        noPlace("month 240", () -> x.bill(0, 240));
        noPlace("least month", () -> x.bill(0, LEAST));
        noPlace("most month", () -> x.bill(0, MOST));
        Voidrent y = new Voidrent();
        y.let(0, 0, 7200, 31);
        due("the first month", 31, y.bill(0, 0));
        due("the last month", 31, y.bill(0, 239));
    }

    private static void promise16BillOfManyRents() {
        Voidrent x = new Voidrent();
        x.let(0, 91, 120, 10);
        x.setTerms(0, 2, 0);
        for (int step = 0; step < 6; step++) {
            x.step(0, 95 + 4 * step, 20 + 10 * step);
        }
        // 2 days free, 2 of 10, 4 of 20, 30, 40, 50, 60 each, and 5 of 70
        due("the bill", (20 + 4 * 200 + 5 * 70) / 30, x.bill(0, 3));
        due("by days", (20 + 4 * 200 + 5 * 70) / 30, x.billByDays(0, 3));
        due("behind", 0, x.bill(0, 4));
        Voidrent y = new Voidrent();
        y.setIndex(0, 10);
        y.setIndex(1, 999);
        y.let(0, 29, 100, 99999);
        y.setTerms(0, 0, 30);
        due("one day of the agreed rent", 3333, y.bill(0, 0));
        due("rounded once", (29 * 99999 + 9989900) / 30, y.bill(0, 1));
        due("the greatest bill", 9989900, y.bill(0, 2));
        due("by days", 9989900, y.billByDays(0, 2));
    }

    private static void promise17BillByDays() {
        Voidrent x = oneLease(500);
        due("20 days", 333, x.billByDays(0, 3));
        due("a whole month", 500, x.billByDays(0, 4));
        due("20 days more", 333, x.billByDays(0, 6));
        due("behind", 0, x.billByDays(0, 7));
        due("month 0", 0, x.billByDays(0, 0));
        due("month 239", 0, x.billByDays(0, 239));
        x.step(0, 121, 531);
        due("stepped", (500 + 29 * 531) / 30, x.billByDays(0, 4));
        noPlace("lease -1", () -> x.billByDays(-1, 4));
        noPlace("lease 1", () -> x.billByDays(1, 4));
        noPlace("month -1", () -> x.billByDays(0, -1));
        noPlace("month 240", () -> x.billByDays(0, 240));
        noPlace("least month", () -> x.billByDays(0, LEAST));
        noPlace("most month", () -> x.billByDays(0, MOST));
    }

    private static void promise18Bills() {
        Voidrent x = oneLease(500);
        due("all months", 333L + 500 + 500 + 333, x.bills(0, 0, 239));
        due("one month", 333L, x.bills(0, 3, 3));
        due("two months", 833L, x.bills(0, 3, 4));
        due("none of its months", 0L, x.bills(0, 7, 239));
        due("the last month", 0L, x.bills(0, 239, 239));
        due("the first month", 0L, x.bills(0, 0, 0));
        noArgument("to below from", () -> x.bills(0, 4, 3));
        noArgument("to far below from", () -> x.bills(0, 239, 0));
        noPlace("lease -1", () -> x.bills(-1, 3, 4));
        noPlace("lease 1", () -> x.bills(1, 3, 4));
        noPlace("from -1", () -> x.bills(0, -1, 4));
        noPlace("from 240", () -> x.bills(0, 240, 240));
        noPlace("to 240", () -> x.bills(0, 3, 240));
        noPlace("to -1", () -> x.bills(0, 3, -1));
        noPlace("least months", () -> x.bills(0, LEAST, LEAST));
        noPlace("most months", () -> x.bills(0, MOST, MOST));
        noPlace("lease before months", () -> x.bills(1, 4, 3));
        noPlace("month before order", () -> x.bills(0, 240, 3));
        Voidrent y = new Voidrent();
        y.setIndex(0, 10);
        y.setIndex(1, 999);
        y.let(0, 0, 7200, 99999);
        y.setTerms(0, 0, 30);
        due("more than an int holds", 99999L + 239L * 9989900L, y.bills(0, 0, 239));
    }

    private static void promise19NextChange() {
        Voidrent x = oneLease(500);
        due("its first day", 100, x.nextChange(0, 0));
        due("still", 100, x.nextChange(0, 99));
        due("the day behind it", 200, x.nextChange(0, 100));
        due("still", 200, x.nextChange(0, 199));
        due("none", Voidrent.NONE, x.nextChange(0, 200));
        due("none up to the last day", Voidrent.NONE, x.nextChange(0, 7199));
        x.setTerms(0, 10, 30);
        x.step(0, 150, 600);
        x.setIndex(5, 130);
        due("the first paid day", 110, x.nextChange(0, 0));
        due("the step", 150, x.nextChange(0, 110));
        due("the review", 160, x.nextChange(0, 150));
        due("the day behind it", 200, x.nextChange(0, 160));
        x.setTerms(0, 100, 30);
        due("free to its end", Voidrent.NONE, x.nextChange(0, 0));
        x.setTerms(0, 99, 30);
        due("its last day", 199, x.nextChange(0, 0));
        x.let(2, 0, 7200, 5);
        due("never", Voidrent.NONE, x.nextChange(1, 0));
        x.step(1, 7199, 6);
        due("the last of all days", 7199, x.nextChange(1, 0));
        due("behind it", Voidrent.NONE, x.nextChange(1, 7199));
        noPlace("lease -1", () -> x.nextChange(-1, 5));
        noPlace("lease 2", () -> x.nextChange(2, 5));
        noPlace("day -1", () -> x.nextChange(0, -1));
        noPlace("day 7200", () -> x.nextChange(0, 7200));
        noPlace("least day", () -> x.nextChange(0, LEAST));
        noPlace("most day", () -> x.nextChange(0, MOST));
    }

    private static void promise19NextChangeBetweenEqualRents() {
        Voidrent x = new Voidrent();
        x.let(0, 0, 7200, 100);
        x.setTerms(0, 0, 30);
        x.step(0, 50, 100);
        due("a step to the same rent", Voidrent.NONE, x.nextChange(0, 0));
        x.setIndex(200, 99);
        due("a review that goes down", Voidrent.NONE, x.nextChange(0, 0));
        x.setIndex(239, 101);
        due("the last review", 7170, x.nextChange(0, 0));
        x.setIndex(100, 200);
        x.step(0, 3000, 50);
        due("a step that a review makes up for", Voidrent.NONE, x.nextChange(0, 0));
        x.let(1, 10, 20, 100);
        x.step(1, 15, 200);
        x.step(1, 16, 100);
        due("up", 15, x.nextChange(1, 10));
        due("down again on the next day", 16, x.nextChange(1, 15));
        x.let(2, 10, 11, 100);
        due("one day", 10, x.nextChange(2, 0));
        due("behind the one day", 11, x.nextChange(2, 10));
    }

    private static void promise20Voids() {
        Voidrent x = new Voidrent();
        x.let(0, 350, 730, 5);
        x.let(0, 300, 320, 5);
        x.let(5, 6840, 7200, 5);
        due("year 0", 330, x.voids(0, 0));
        due("year 1", 0, x.voids(0, 1));
        due("year 2", 350, x.voids(0, 2));
        due("year 3", 360, x.voids(0, 3));
        due("another unit", 360, x.voids(1, 1));
        due("the last year", 0, x.voids(5, 19));
        due("the year before", 360, x.voids(5, 18));
        x.end(0, 351);
        due("ended", 339, x.voids(0, 0));
        due("year 1", 360, x.voids(0, 1));
        noPlace("unit -1", () -> x.voids(-1, 0));
        noPlace("unit 6", () -> x.voids(6, 0));
        noPlace("year -1", () -> x.voids(0, -1));
        noPlace("year 20", () -> x.voids(0, 20));
        noPlace("least year", () -> x.voids(0, LEAST));
        noPlace("most year", () -> x.voids(0, MOST));
    }

    private static void promise21Part() {
        Voidrent x = new Voidrent();
        x.let(0, 100, 400, 5);
        x.setCost(0, 1000);
        x.setCost(1, 1000);
        x.setCost(2, 1000);
        due("no unit has an area", 0, x.part(0, 0));
        x.setArea(1, 7);
        due("its unit has none", 0, x.part(0, 0));
        x.setArea(0, 3);
        due("260 days", 216, x.part(0, 0));
        due("40 days", 33, x.part(0, 1));
        due("no days", 0, x.part(0, 2));
        x.setCost(0, 999);
        due("rounded once", 216, x.part(0, 0));
        x.setArea(1, 0);
        due("the only area", 721, x.part(0, 0));
        x.let(5, 6840, 7200, 5);
        x.setCost(19, 999999);
        for (int unit = 0; unit < 6; unit++) {
            x.setArea(unit, 999);
        }
        due("the greatest numbers", 166666, x.part(1, 19));
        for (int unit = 0; unit < 5; unit++) {
            x.setArea(unit, 0);
        }
        due("all of it", 999999, x.part(1, 19));
        noPlace("lease -1", () -> x.part(-1, 0));
        noPlace("lease 2", () -> x.part(2, 0));
        noPlace("year -1", () -> x.part(0, -1));
        noPlace("year 20", () -> x.part(0, 20));
        noPlace("least year", () -> x.part(0, LEAST));
        noPlace("most year", () -> x.part(0, MOST));
    }

    private static void promise21PartWithCap() {
        Voidrent x = new Voidrent();
        x.setArea(2, 50);
        x.let(2, 10, 100, 5);
        x.setCost(0, 999);
        due("no cap", 249, x.part(0, 0));
        x.setService(0, 999, 0);
        due("a cap as high", 249, x.part(0, 0));
        x.setService(0, 995, 0);
        due("a cap by days, rounded down", 248, x.part(0, 0));
        x.setService(0, 1000, 0);
        due("a cap above", 249, x.part(0, 0));
        x.setService(0, 999999, 0);
        x.end(0, 99);
        due("a high cap", 246, x.part(0, 0));
        x.let(2, 360, 720, 5);
        x.setCost(1, 999999);
        x.setService(1, 999998, 0);
        due("the greatest product", 999998, x.part(1, 1));
    }

    private static void promise22Owners() {
        Voidrent x = new Voidrent();
        x.setCost(0, 1000);
        x.setCost(1, 500);
        due("all of it", 1000, x.owners(0));
        x.setArea(0, 1);
        x.setArea(1, 2);
        due("still", 1000, x.owners(0));
        x.let(0, 0, 360, 5);
        due("less a part", 667, x.owners(0));
        x.let(1, 180, 540, 5);
        due("less two parts", 334, x.owners(0));
        due("the next year", 334, x.owners(1));
        x.setService(0, 100, 0);
        due("what a cap leaves", 567, x.owners(0));
        x.setArea(2, 3);
        due("a unit without a lease", 734, x.owners(0));
        due("the last year", 0, x.owners(19));
        noPlace("year -1", () -> x.owners(-1));
        noPlace("year 20", () -> x.owners(20));
        noPlace("least year", () -> x.owners(LEAST));
        noPlace("most year", () -> x.owners(MOST));
    }

    private static void promise23Balance() {
        Voidrent x = new Voidrent();
        x.setArea(0, 1);
        x.setCost(0, 1200);
        x.let(0, 15, 370, 5);
        due("nothing is prepaid", 1150, x.balance(0, 0));
        x.setService(0, Voidrent.NONE, 95);
        due("something is prepaid", 1150 - 1092, x.balance(0, 0));
        due("no cost, 10 days", -31, x.balance(0, 1));
        due("no days", 0, x.balance(0, 2));
        x.setService(0, 1000, 95);
        due("with a cap", 958 - 1092, x.balance(0, 0));
        noPlace("lease -1", () -> x.balance(-1, 0));
        noPlace("lease 1", () -> x.balance(1, 0));
        noPlace("year -1", () -> x.balance(0, -1));
        noPlace("year 20", () -> x.balance(0, 20));
        noPlace("least year", () -> x.balance(0, LEAST));
        noPlace("most year", () -> x.balance(0, MOST));
    }

    private static void promise24Share() {
        Voidrent x = new Voidrent();
        due("no areas", 0.0, x.share(0));
        x.setArea(5, 1);
        due("the least area", 1.0, x.share(5));
        x.setArea(5, 999);
        due("all of it", 1.0, x.share(5));
        due("nothing of it", 0.0, x.share(0));
        x.setArea(0, 1);
        due("a small one", 1.0 / 1000, x.share(0));
        due("a great one", 999.0 / 1000, x.share(5));
        x.setArea(1, 2);
        due("not rounded", 2.0 / 1002, x.share(1));
        x.setArea(0, 0);
        x.setArea(1, 0);
        x.setArea(5, 0);
        due("no areas again", 0.0, x.share(5));
        noPlace("unit -1", () -> x.share(-1));
        noPlace("unit 6", () -> x.share(6));
        noPlace("least unit", () -> x.share(LEAST));
        noPlace("most unit", () -> x.share(MOST));
    }

    /** Numbers that no lease has, in an object without leases and in one with all 24. */
    private static void noLeaseNoAnswer() {
        Voidrent none = new Voidrent();
        Voidrent all = new Voidrent();
        for (int lease = 0; lease < 24; lease++) {
            all.let(0, lease, lease + 1, 1);
        }
        for (int lease : new int[] {0, LEAST, -1, 23, 24, 25, MOST}) {
            noLease(none, lease);
            if (lease < 0 || lease > 23) {
                noLease(all, lease);
            }
        }
    }

    private static void noLease(Voidrent x, int lease) {
        noPlace("end " + lease, () -> x.end(lease, 1));
        noPlace("step " + lease, () -> x.step(lease, 1, 1));
        noPlace("setTerms " + lease, () -> terms(x, lease, 0, 0));
        noPlace("setService " + lease, () -> service(x, lease, 0, 0));
        noPlace("topUp " + lease, () -> x.topUp(lease, 1, 1));
        noPlace("draw " + lease, () -> x.draw(lease, 1));
        noPlace("held " + lease, () -> x.held(lease));
        noPlace("rentOn " + lease, () -> x.rentOn(lease, 1));
        noPlace("bill " + lease, () -> x.bill(lease, 1));
        noPlace("billByDays " + lease, () -> x.billByDays(lease, 1));
        noPlace("bills " + lease, () -> x.bills(lease, 1, 1));
        noPlace("nextChange " + lease, () -> x.nextChange(lease, 1));
        noPlace("part " + lease, () -> x.part(lease, 1));
        noPlace("balance " + lease, () -> x.balance(lease, 1));
    }
}
