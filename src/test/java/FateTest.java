/** Promise 8: fate. */
public final class FateTest {
    private static final Check check = new Check();

    public static void main(String[] args) {
        countsToHundred();
        takenFatesWaitNoMore();
        theyAreTakenInTheirOrder();
        check.end();
    }

    private static void countsToHundred() {
        CraneSite site = new CraneSite();
        check.refusesArgument("fate -1", () -> site.fate(-1));
        check.refusesArgument("fate 31", () -> site.fate(31));
        for (int i = 1; i <= 100; i++) {
            check.equal("fate " + i, site.fate(i % 31), i);
        }
        check.refusesState("the 101st", () -> site.fate(0));
        check.refusesState("the 101st", () -> site.fate(30));
        check.refusesArgument("the 101st of no such number", () -> site.fate(31));
        check.refusesArgument("the 101st of no such number", () -> site.fate(-1));
        site.tick(50);
        check.refusesState("without messages they go on waiting", () -> site.fate(1));
    }

    private static void takenFatesWaitNoMore() {
        CraneSite site = new CraneSite();
        site.share(0, 0, 1, 50, 1);
        for (int i = 0; i < 100; i++) {
            site.fate(0);
        }
        site.tick(10);
        check.equal("one BEAT took one", site.fate(0), 100);
        check.refusesState("full again", () -> site.fate(0));
        site.tick(1000);
        check.equal("a hundred BEATs and one are lost", site.bus(2), 101);
        check.equal("none waits any more", site.fate(3), 1);
    }

    private static void theyAreTakenInTheirOrder() {
        CraneSite site = new CraneSite();
        site.share(0, 0, 1, 50, 1);
        Check.fates(site, 25, 0, 7);
        site.tick(30);
        check.equalRows("two on their way", Check.bus(site), Check.row(2, 3, 1, 0));
        site.tick(4);
        check.equal("the first has not come", site.bus(3), 0);
        site.tick(1);
        check.equal("25 later it has", site.bus(3), 1);
        site.tick(1);
        check.equal("the third has not come", site.bus(3), 1);
        site.tick(1);
        check.equal("7 later it has", site.bus(3), 2);
        site.tick(4);
        check.equalRows("without fates it is 1", Check.bus(site), Check.row(0, 4, 1, 3));
    }
}
